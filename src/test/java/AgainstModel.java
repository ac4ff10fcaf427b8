import java.util.ArrayDeque;
import java.util.ArrayList;
import java.util.Arrays;
import java.util.Deque;
import java.util.List;
import java.util.Random;
import java.util.TreeMap;
import java.util.regex.Matcher;
import java.util.regex.Pattern;

// Random runs of calls against a model that is written another way: unchanging lists, crossings by orientation, the ray
// by angles in doubles, texts by a pattern and a list of what may come.
public final class AgainstModel {
  // What an object answers behind its 512th call is free.
  private static final int RUNS = 8000, CALLS = 512;
  private static int wrong = 0;
  private static long asked = 0;

  public static void main(String[] args) {
    for (int run = 0; run < RUNS && wrong < 20; run++) run(run);
    System.out.println(asked + " answers asked, " + wrong + " not as due");
    if (wrong != 0) System.exit(1);
  }

  private static void run(int seed) {
    Random random = new Random(seed);
    LampPlans x = new LampPlans();
    Model m = new Model();
    List<String> calls = new ArrayList<>();
    boolean goesOn = true;
    for (int i = 0; i < CALLS && goesOn; i++) {
      goesOn = i == 0 || random.nextInt(60) == 0 ? tells(random, x, m, calls) : call(random, x, m, calls);
    }
  }

  // Whether the run goes on.
  private static boolean due(List<String> calls, String call, int got, int want) {
    asked++;
    calls.add(call + " = " + got);
    if (got == want) return calls.size() < CALLS;
    wrong++;
    System.out.println(String.join("\n  ", calls) + "\n  ^ due is " + want);
    return false;
  }

  private static boolean tells(Random random, LampPlans x, Model m, List<String> calls) {
    String text = Texts.any(random);
    for (int i = 0; i < text.length(); i++) {
      int letter = text.charAt(i);
      if (!due(calls, "type(" + letter + ")", x.type(letter), m.type(letter))) return false;
    }
    if (!due(calls, "'" + text + "' plan()", x.plan(), m.plan())) return false;
    if (random.nextInt(4) != 0 && !due(calls, "clear()", x.clear(), m.clear())) return false;
    return same(x, m, calls);
  }

  private static boolean same(LampPlans x, Model m, List<String> calls) {
    for (int what = 0; what < 7; what++) {
      if (!due(calls, "count(" + what + ")", x.count(what), m.count(what))) return false;
    }
    for (int w = 4; w < m.now.walls.size(); w++) {
      for (int what = 0; what < 4; what++) {
        if (!due(calls, "wall(" + w + ", " + what + ")", x.wall(w, what), m.wall(w, what))) return false;
      }
    }
    for (int l = 0; l < m.now.lamps.size(); l++) {
      for (int what = 0; what < 3; what++) {
        if (!due(calls, "lamp(" + l + ", " + what + ")", x.lamp(l, what), m.lamp(l, what))) return false;
      }
    }
    return true;
  }

  // Not behind each call, since calls are few.
  private static boolean sameAtTimes(Random random, LampPlans x, Model m, List<String> calls) {
    return random.nextInt(6) != 0 || same(x, m, calls);
  }

  private static int number(Random random, int below) {
    switch (random.nextInt(40)) {
      case 0: return Integer.MIN_VALUE;
      case 1: return Integer.MAX_VALUE;
      case 2: return -1;
      case 3: return below;
      case 4: return random.nextInt();
      default: return random.nextInt(Math.max(below, 1));
    }
  }

  private static boolean call(Random random, LampPlans x, Model m, List<String> calls) {
    int a = number(random, m.now.w), b = number(random, m.now.h), l = number(random, m.now.lamps.size());
    int w = number(random, m.now.walls.size()), k = number(random, 16), c = number(random, 3), d = number(random, 2);
    int length = number(random, 6), point = number(random, m.now.w + 1), other = number(random, m.now.h + 1);
    switch (random.nextInt(33)) {
      case 0: return due(calls, "type(" + w + ")", x.type(w), m.type(w));
      case 1: return due(calls, "clear()", x.clear(), m.clear());
      case 2: return random.nextInt(9) != 0 || due(calls, "plan()", x.plan(), m.plan());
      case 3:
      case 4: return due(calls, "puts(" + a + ", " + b + ")", x.puts(a, b), m.puts(a, b)) && sameAtTimes(random, x, m, calls);
      case 5: return due(calls, "takes(" + l + ")", x.takes(l), m.takes(l)) && sameAtTimes(random, x, m, calls);
      case 6: return due(calls, "switches(" + l + ")", x.switches(l), m.switches(l)) && sameAtTimes(random, x, m, calls);
      case 7:
      case 8: return due(calls, "builds(" + point + ", " + other + ", " + length + ", " + d + ")",
          x.builds(point, other, length, d), m.builds(point, other, length, d)) && sameAtTimes(random, x, m, calls);
      case 9: return due(calls, "breaks(" + w + ")", x.breaks(w), m.breaks(w)) && sameAtTimes(random, x, m, calls);
      case 10: return due(calls, "undo()", x.undo(), m.undo()) && same(x, m, calls);
      case 11: return due(calls, "lit(" + l + ", " + a + ", " + b + ")", x.lit(l, a, b), m.lit(l, a, b));
      case 12: return due(calls, "by(" + a + ", " + b + ")", x.by(a, b), m.by(a, b));
      case 13: return due(calls, "lights(" + l + ")", x.lights(l), m.lights(l));
      case 14: return due(calls, "all()", x.all(), m.all());
      case 15: return due(calls, "events(" + l + ")", x.events(l), m.events(l))
          && (random.nextInt(4) != 0 || allOfRay(x, m, l, calls));
      case 16: return due(calls, "event(" + l + ", " + k + ", " + d + ")", x.event(l, k, d), m.event(l, k, d));
      case 17: return due(calls, "sector(" + l + ", " + k + ", " + c + ")", x.sector(l, k, c), m.sector(l, k, c));
      case 18: return due(calls, "walls(" + l + ")", x.walls(l), m.walls(l));
      case 19: return due(calls, "fewest()", x.fewest(), m.fewest());
      case 20: return due(calls, "best(" + c + ")", x.best(c), m.best(c));
      case 21: return due(calls, "gain(" + w + ")", x.gain(w), m.gain(w));
      case 22: return due(calls, "worst()", x.worst(), m.worst());
      case 23:
      case 24: return due(calls, "sees(" + a + ", " + b + ", " + d + ")", x.sees(a, b, d), m.sees(a, b, d));
      case 25: return random.nextInt(4) != 0 || due(calls, "forget()", x.forget(), m.forget());
      case 26: return due(calls, "unseen()", x.unseen(), m.unseen());
      case 27: return due(calls, "keep(" + d + ")", x.keep(d), m.keep(d)) && sameAtTimes(random, x, m, calls);
      case 28: return due(calls, "back(" + d + ")", x.back(d), m.back(d)) && same(x, m, calls);
      case 29: return due(calls, "wall(" + w + ", " + k + ")", x.wall(w, k), m.wall(w, k));
      case 30: return due(calls, "wall(" + w + ", " + c + ")", x.wall(w, c), m.wall(w, c));
      case 31: return due(calls, "lamp(" + l + ", " + c + ")", x.lamp(l, c), m.lamp(l, c));
      default: return due(calls, "count(" + k + ")", x.count(k), m.count(k));
    }
  }

  private static boolean allOfRay(LampPlans x, Model m, int l, List<String> calls) {
    for (int k = -1; k <= m.events(l); k++) {
      for (int what = -1; what <= 3; what++) {
        String rest = "(" + l + ", " + k + ", " + what + ")";
        if (!due(calls, "event" + rest, x.event(l, k, what), m.event(l, k, what))) return false;
        if (!due(calls, "sector" + rest, x.sector(l, k, what), m.sector(l, k, what))) return false;
      }
    }
    return true;
  }

  // Texts that are plans for the most part, some of them spoilt.
  private static final class Texts {
    static String any(Random random) {
      StringBuilder text = new StringBuilder();
      int w = 6, h = 6;
      if (random.nextInt(4) != 0) {
        w = 2 + random.nextInt(8);
        h = 2 + random.nextInt(8);
        text.append("b").append(w).append(" ").append(h).append(";");
      }
      int items = random.nextInt(16);
      for (int i = 0; i < items; i++) {
        String item = item(random, w, h);
        if (text.length() + item.length() <= 120 || random.nextInt(6) == 0) text.append(item);
      }
      if (random.nextInt(3) == 0) spoil(random, text);
      return text.toString();
    }

    private static String item(Random random, int w, int h) {
      int slack = random.nextInt(60) == 0 ? 1 : 0;
      if (random.nextInt(3) == 0) return "l" + random.nextInt(w + slack) + " " + random.nextInt(h + slack) + ";";
      if (random.nextBoolean()) {
        int x = random.nextInt(w + slack);
        int most = Math.max(1, w - x);
        return "r" + x + " " + random.nextInt(h + 1 + slack) + " " + (1 + random.nextInt(most) + slack) + ";";
      }
      int y = random.nextInt(h + slack);
      int most = Math.max(1, h - y);
      return "u" + random.nextInt(w + 1 + slack) + " " + y + " " + (1 + random.nextInt(most) + slack) + ";";
    }

    private static void spoil(Random random, StringBuilder text) {
      String letters = "brul;0123456789  x";
      for (int times = 1 + random.nextInt(2); times > 0; times--) {
        int place = random.nextInt(text.length() + 1);
        char letter = letters.charAt(random.nextInt(letters.length()));
        int how = random.nextInt(5);
        if (how == 0 && place < text.length()) text.deleteCharAt(place);
        else if (how == 1 && place < text.length()) text.setCharAt(place, letter);
        else if (how == 2) text.setLength(place);
        else text.insert(place, how == 3 ? ' ' : letter);
      }
    }
  }

  private record Wall(int x, int y, int length, int up) {
    int endX() { return up == 1 ? x : x + length; }
    int endY() { return up == 1 ? y + length : y; }
  }

  private record Lamp(int x, int y, int on) { }

  private record Seen(int x, int y, int is) { }

  private record State(int w, int h, List<Wall> walls, List<Lamp> lamps) {
    static State of(int w, int h) {
      return new State(w, h, List.of(new Wall(0, 0, w, 0), new Wall(w, 0, h, 1), new Wall(0, h, w, 0), new Wall(0, 0, h, 1)),
          List.of());
    }

    State withWalls(List<Wall> other) { return new State(w, h, List.copyOf(other), lamps); }
    State withLamps(List<Lamp> other) { return new State(w, h, walls, List.copyOf(other)); }
    boolean spot(int x, int y) { return 0 <= x && x < w && 0 <= y && y < h; }
    boolean taken(int x, int y) { return lamps.stream().anyMatch(lamp -> lamp.x == x && lamp.y == y); }
  }

  private record Fault(int place) { }

  private static final class Model {
    State now = State.of(6, 6);
    final StringBuilder text = new StringBuilder();
    final Deque<State> past = new ArrayDeque<>();
    final List<Seen> seen = new ArrayList<>();
    final State[] images = new State[2];

    int type(int letter) {
      if (letter < 0 || letter > 255) return -1;
      if (text.length() == 120) return -3;
      return text.append((char) letter).length();
    }

    int clear() {
      int had = text.length();
      text.setLength(0);
      return had;
    }

    int plan() {
      int[] items = new int[1];
      Object read = read(text.toString(), items);
      if (read instanceof Fault fault) return -10 - fault.place;
      now = (State) read;
      text.setLength(0);
      past.clear();
      seen.clear();
      Arrays.fill(images, null);
      return items[0];
    }

    private static Object read(String all, int[] items) {
      List<String> tokens = new ArrayList<>();
      List<Integer> places = new ArrayList<>();
      Matcher matcher = Pattern.compile("[0-9]+|[^ ]", Pattern.DOTALL).matcher(all);
      while (matcher.find()) {
        tokens.add(matcher.group());
        places.add(matcher.start());
      }
      State state = State.of(6, 6);
      int at = 0;
      while (at < tokens.size()) {
        int parts = switch (tokens.get(at)) { case "b", "l" -> 4; case "r", "u" -> 5; default -> 0; };
        if (parts == 0) return new Fault(places.get(at));
        for (int i = 0; i < parts; i++) {
          if (at + i == tokens.size()) return new Fault(all.length());
          if (!stands(state, tokens.subList(at, at + i + 1), i, parts, items[0])) return new Fault(places.get(at + i));
        }
        state = with(state, tokens.subList(at, at + parts));
        at += parts;
        items[0]++;
      }
      return state;
    }

    // Whether the last of these tokens of one item can stand behind the others.
    private static boolean stands(State s, List<String> item, int i, int parts, int items) {
      String kind = item.get(0), token = item.get(i);
      if (i == 0) {
        return switch (kind) {
          case "b" -> items == 0;
          case "l" -> s.lamps.size() < 8;
          default -> s.walls.size() < 14;
        };
      }
      if (i == parts - 1) return token.equals(";");
      if (!token.matches("[0-9]")) return false;
      int n = Integer.parseInt(token), first = Integer.parseInt(item.get(1));
      switch (kind) {
        case "b": return n >= 2;
        case "l": return i == 1 ? n < s.w : n < s.h && !s.taken(first, n);
        case "r": return i == 1 ? n < s.w : i == 2 ? n <= s.h : n >= 1 && first + n <= s.w;
        default: return i == 1 ? n <= s.w : i == 2 ? n < s.h : n >= 1 && Integer.parseInt(item.get(2)) + n <= s.h;
      }
    }

    private static State with(State s, List<String> item) {
      int x = Integer.parseInt(item.get(1)), y = Integer.parseInt(item.get(2));
      switch (item.get(0)) {
        case "b": return State.of(x, y);
        case "l": return s.withLamps(joined(s.lamps, new Lamp(x, y, 1)));
        default: return s.withWalls(joined(s.walls,
            new Wall(x, y, Integer.parseInt(item.get(3)), item.get(0).equals("u") ? 1 : 0)));
      }
    }

    private static <T> List<T> joined(List<T> list, T more) {
      List<T> all = new ArrayList<>(list);
      all.add(more);
      return all;
    }

    private static <T> List<T> without(List<T> list, int i) {
      List<T> all = new ArrayList<>(list);
      all.remove(i);
      return all;
    }

    int wall(int n, int what) {
      if (n < 0 || n >= now.walls.size()) return -1;
      Wall wall = now.walls.get(n);
      return switch (what) { case 0 -> wall.x; case 1 -> wall.y; case 2 -> wall.length; case 3 -> wall.up; default -> -1; };
    }

    int lamp(int n, int what) {
      if (n < 0 || n >= now.lamps.size()) return -1;
      Lamp lamp = now.lamps.get(n);
      return switch (what) { case 0 -> lamp.x; case 1 -> lamp.y; case 2 -> lamp.on; default -> -1; };
    }

    private void change(State next) {
      past.addLast(now);
      if (past.size() > 10) past.removeFirst();
      now = next;
    }

    private boolean noLamp(int l) { return l < 0 || l >= now.lamps.size(); }

    int puts(int x, int y) {
      if (!now.spot(x, y)) return -1;
      if (now.taken(x, y)) return -2;
      if (now.lamps.size() == 8) return -3;
      change(now.withLamps(joined(now.lamps, new Lamp(x, y, 1))));
      return now.lamps.size();
    }

    int takes(int l) {
      if (noLamp(l)) return -1;
      change(now.withLamps(without(now.lamps, l)));
      return now.lamps.size();
    }

    int switches(int l) {
      if (noLamp(l)) return -1;
      List<Lamp> lamps = new ArrayList<>(now.lamps);
      Lamp lamp = lamps.get(l);
      lamps.set(l, new Lamp(lamp.x, lamp.y, lamp.on == 1 ? 0 : 1));
      change(now.withLamps(lamps));
      return now.lamps.get(l).on;
    }

    int builds(int x, int y, int length, int up) {
      if (up != 0 && up != 1) return -1;
      long endX = up == 0 ? (long) x + length : x, endY = up == 1 ? (long) y + length : y;
      if (x < 0 || y < 0 || length < 1 || endX > now.w || endY > now.h) return -1;
      if (now.walls.size() == 14) return -3;
      change(now.withWalls(joined(now.walls, new Wall(x, y, length, up))));
      return now.walls.size();
    }

    int breaks(int w) {
      if (w < 4 || w >= now.walls.size()) return -1;
      change(now.withWalls(without(now.walls, w)));
      return now.walls.size();
    }

    int undo() {
      if (past.isEmpty()) return -2;
      now = past.removeLast();
      return past.size();
    }

    // Whether two closed lines have a place in common, by on which side of each the other's ends are.
    private static boolean meet(int[] p, int[] q, int[] r, int[] s) {
      int one = side(p, q, r), two = side(p, q, s), three = side(r, s, p), four = side(r, s, q);
      if (one != two && three != four) return true;
      return one == 0 && within(p, r, q) || two == 0 && within(p, s, q) || three == 0 && within(r, p, s)
          || four == 0 && within(r, q, s);
    }

    private static int side(int[] p, int[] q, int[] r) {
      return Integer.signum((q[0] - p[0]) * (r[1] - p[1]) - (q[1] - p[1]) * (r[0] - p[0]));
    }

    private static boolean within(int[] p, int[] r, int[] q) {
      return Math.min(p[0], q[0]) <= r[0] && r[0] <= Math.max(p[0], q[0]) && Math.min(p[1], q[1]) <= r[1]
          && r[1] <= Math.max(p[1], q[1]);
    }

    private static int[] middle(int x, int y) { return new int[] {2 * x + 1, 2 * y + 1}; }
    private static int[] begin(Wall wall) { return new int[] {2 * wall.x, 2 * wall.y}; }
    private static int[] end(Wall wall) { return new int[] {2 * wall.endX(), 2 * wall.endY()}; }

    private static boolean sees(State s, int fromX, int fromY, int x, int y) {
      return s.walls.stream().noneMatch(wall -> meet(middle(fromX, fromY), middle(x, y), begin(wall), end(wall)));
    }

    private static boolean litByOn(State s, int x, int y, int out) {
      for (int l = 0; l < s.lamps.size(); l++) {
        Lamp lamp = s.lamps.get(l);
        if (l != out && lamp.on == 1 && sees(s, lamp.x, lamp.y, x, y)) return true;
      }
      return false;
    }

    private static int all(State s) {
      int spots = 0;
      for (int x = 0; x < s.w; x++) for (int y = 0; y < s.h; y++) if (litByOn(s, x, y, -1)) spots++;
      return spots;
    }

    int lit(int l, int x, int y) {
      if (noLamp(l) || !now.spot(x, y)) return -1;
      return sees(now, now.lamps.get(l).x, now.lamps.get(l).y, x, y) ? 1 : 0;
    }

    int by(int x, int y) {
      if (!now.spot(x, y)) return -1;
      int bits = 0;
      for (int l = 0; l < now.lamps.size(); l++) if (now.lamps.get(l).on == 1 && lit(l, x, y) == 1) bits += 1 << l;
      return bits;
    }

    int lights(int l) {
      if (noLamp(l)) return -1;
      int spots = 0;
      for (int x = 0; x < now.w; x++) for (int y = 0; y < now.h; y++) spots += lit(l, x, y);
      return spots;
    }

    int all() { return all(now); }

    private List<int[]> eventList(int l) {
      List<int[]> points = new ArrayList<>();
      for (Wall wall : now.walls) {
        points.add(begin(wall));
        points.add(end(wall));
        for (Wall other : now.walls) {
          if (wall.up == 0 && other.up == 1 && meet(begin(wall), end(wall), begin(other), end(other))) {
            points.add(new int[] {2 * other.x, 2 * wall.y});
          }
        }
      }
      int[] lamp = middle(now.lamps.get(l).x, now.lamps.get(l).y);
      // Directions of so small numbers are alike only if their angles differ by less than this rounding.
      TreeMap<Long, int[]> byAngle = new TreeMap<>();
      for (int[] point : points) {
        int dx = point[0] - lamp[0], dy = point[1] - lamp[1], divisor = 1;
        for (int i = 2; i < 20; i++) if (dx % i == 0 && dy % i == 0) divisor = i;
        byAngle.put(Math.round(angle(dx, dy) * 1e9), new int[] {dx / divisor, dy / divisor});
      }
      return new ArrayList<>(byAngle.values());
    }

    private static double angle(double dx, double dy) {
      double angle = Math.atan2(dy, dx);
      return angle < 0 ? angle + 2 * Math.PI : angle;
    }

    int events(int l) { return noLamp(l) ? -1 : eventList(l).size(); }

    int event(int l, int k, int what) {
      if (noLamp(l) || k < 0 || what < 0 || what > 1 || k >= events(l)) return -1000;
      return eventList(l).get(k)[what];
    }

    // How far a ray goes to a wall, or no end.
    private static double distance(int[] lamp, double angle, Wall wall) {
      double x = lamp[0] / 2.0, y = lamp[1] / 2.0, dx = Math.cos(angle), dy = Math.sin(angle);
      double far = wall.up == 1 ? (wall.x - x) / dx : (wall.y - y) / dy;
      double at = wall.up == 1 ? y + far * dy - wall.y : x + far * dx - wall.x;
      return far > 0 && at >= -1e-9 && at <= wall.length + 1e-9 ? far : Double.POSITIVE_INFINITY;
    }

    int sector(int l, int k, int what) {
      if (noLamp(l) || k < 0 || what < 0 || what > 2) return -1;
      List<int[]> list = eventList(l);
      if (k >= list.size()) return -9;
      int[] one = list.get(k), two = list.get((k + 1) % list.size());
      double from = angle(one[0], one[1]), to = angle(two[0], two[1]);
      if (to < from) to += 2 * Math.PI;
      int[] lamp = middle(now.lamps.get(l).x, now.lamps.get(l).y);
      int met = -1;
      double nearest = Double.POSITIVE_INFINITY;
      for (int w = 0; w < now.walls.size(); w++) {
        double far = distance(lamp, from + (to - from) * 0.37, now.walls.get(w));
        if (far < nearest - 1e-9) {
          met = w;
          nearest = far;
        }
      }
      if (what == 0) return met;
      double area = distance(lamp, from, now.walls.get(met)) * distance(lamp, to, now.walls.get(met)) * Math.sin(to - from) / 2;
      return fraction(area)[what - 1];
    }

    // The fraction with the least lower number that is so near that none with one of at most 2,400 is nearer.
    private static int[] fraction(double area) {
      for (int lower = 1; lower <= 2400; lower++) {
        long upper = Math.round(area * lower);
        if (Math.abs(area * lower - upper) < 1e-8 * lower) return new int[] {(int) upper, lower};
      }
      throw new IllegalStateException("no such area: " + area);
    }

    int walls(int l) {
      if (noLamp(l)) return -1;
      int bits = 0;
      for (int k = 0; k < events(l); k++) bits |= 1 << sector(l, k, 0);
      return bits;
    }

    int fewest() {
      int n = now.lamps.size(), most = litSpots((1 << n) - 1);
      for (int size = 0; size <= n; size++) {
        for (int set = 0; set < 1 << n; set++) if (Integer.bitCount(set) == size && litSpots(set) == most) return set;
      }
      throw new IllegalStateException();
    }

    private int litSpots(int set) {
      List<Lamp> lamps = new ArrayList<>();
      for (int l = 0; l < now.lamps.size(); l++) {
        lamps.add(new Lamp(now.lamps.get(l).x, now.lamps.get(l).y, set >> l & 1));
      }
      return all(now.withLamps(lamps));
    }

    int best(int what) {
      if (what < 0 || what > 2) return -1;
      int[] best = {-9, -9, -9};
      for (int y = 0; y < now.h; y++) {
        for (int x = 0; x < now.w; x++) {
          if (now.taken(x, y)) continue;
          int more = all(now.withLamps(joined(now.lamps, new Lamp(x, y, 1)))) - all(now);
          if (more > best[2]) best = new int[] {x, y, more};
        }
      }
      return best[what];
    }

    int gain(int w) {
      if (w < 4 || w >= now.walls.size()) return -1;
      return all(now.withWalls(without(now.walls, w))) - all(now);
    }

    int worst() {
      int worst = -9;
      for (int w = now.walls.size() - 1; w >= 4; w--) if (worst == -9 || gain(w) >= gain(worst)) worst = w;
      return worst;
    }

    int sees(int x, int y, int is) {
      if (!now.spot(x, y) || is < 0 || is > 1) return -1;
      if (seen.size() == 6) return -3;
      seen.add(new Seen(x, y, is));
      return seen.size();
    }

    int forget() {
      int had = seen.size();
      seen.clear();
      return had;
    }

    int unseen() {
      int bits = 0;
      for (int l = 0; l < now.lamps.size(); l++) {
        int out = l;
        boolean so = seen.stream().allMatch(s -> litByOn(now, s.x, s.y, out) == (s.is == 1));
        if (so && now.lamps.get(l).on == 1) bits |= 1 << l;
      }
      return bits;
    }

    int keep(int image) {
      if (image != 0 && image != 1) return -1;
      images[image] = now;
      return now.lamps.size();
    }

    int back(int image) {
      if (image != 0 && image != 1) return -1;
      if (images[image] == null) return -2;
      now = images[image];
      past.clear();
      return now.lamps.size();
    }

    int count(int what) {
      return switch (what) {
        case 0 -> now.w;
        case 1 -> now.h;
        case 2 -> now.walls.size();
        case 3 -> now.lamps.size();
        case 4 -> seen.size();
        case 5 -> text.length();
        case 6 -> past.size();
        default -> -1;
      };
    }
  }
}
