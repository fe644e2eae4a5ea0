import java.lang.management.ManagementFactory;
import java.lang.reflect.Array;
import java.lang.reflect.Field;
import java.lang.reflect.Modifier;
import java.util.IdentityHashMap;
import java.util.Map;
import java.util.Random;

/** The room of a run: an object is small when it is made, and no call makes anything, whatever its arguments. */
public final class RoomTest {
  private static long elements = 0;

  public static void main(String[] args) throws Exception {
    RungHouse x = new RungHouse();
    Map<Object, Boolean> seen = new IdentityHashMap<>();
    walk(x, seen);
    boolean small = seen.size() < 200 && elements < 8000;
    System.out.println("RoomTest: " + seen.size() + " objects and arrays, " + elements + " fields and elements");

    com.sun.management.ThreadMXBean bean = (com.sun.management.ThreadMXBean) ManagementFactory.getThreadMXBean();
    long id = Thread.currentThread().getId();
    run(x, 300);
    x = new RungHouse();
    long before = bean.getThreadAllocatedBytes(id);
    long between = bean.getThreadAllocatedBytes(id);
    run(x, 100);
    long after = bean.getThreadAllocatedBytes(id);
    long made = after - between - (between - before);
    // A java.util.Random and its seed are the test's own.
    boolean still = made < 400;
    System.out.println("RoomTest: 100 rounds of calls made " + made + " bytes");
    if (!small || !still) System.exit(1);
  }

  private static void run(RungHouse x, int rounds) {
    Random random = new Random(1);
    tell(x, "rung 100;rung 90;rung 80 kept;down 1;first 5;");
    x.house(0);
    tell(x, "rung 90;rung 85;enter 1;");
    x.house(1);
    tell(x, "scrape 30 100;scrape 90 20;pains 9 40;");
    x.sort();
    tell(x, "bar 40 rungs 0 1;");
    x.rule();
    for (int i = 0; i < rounds; i++) {
      calls(x, random.nextInt(), random.nextInt(4) - 1, random.nextInt(14) - 1, random.nextInt(5), random.nextBoolean());
    }
  }

  private static void calls(RungHouse x, int wild, int a, int b, int d, boolean flag) {
    x.feed(d, wild); x.house(a); x.sort(); x.rule(); x.fault(); x.told(a, d); x.pays(0, d); x.next(0, a, d); x.scrapes(0, b);
    x.cost(0, 0, 12, b, a); x.in(0, 0, 12, 3, a, b, d, flag); x.takes(0, 1, 12, b, a); x.bar(0, 0, 9, 3, a, b, d, flag);
    x.fixed(0, 0, 0, 7, d, a); x.scrape(b, 40, flag); x.judge(0, 0, 6, d, a); x.standing(0, 0, a, 5, b, 1); x.odds(0, 0, a, 5, 1, d);
    x.even(0, 1, a, 5, b, 2); x.year(a, d); x.think(0, 0, b); x.clear(); x.buy(0, 0, 9, d, a, d); x.keepRung(0, 0, b, a);
    x.leave(0, a, b, d); x.pad(0, 0, 9, a, b, d, 50, 20, 30); x.setting(0, 2, -1000); x.seed(wild); x.lives(0, 0, 0, b); x.count(d);
    x.keep(a); x.goBack(a); x.cost(wild, wild, wild, wild, wild); x.in(wild, a, wild, b, wild, d, wild, flag);
  }

  private static void tell(RungHouse x, String text) {
    for (int i = 0; i < text.length(); i++) x.feed(1, text.charAt(i));
  }

  private static void walk(Object o, Map<Object, Boolean> seen) throws Exception {
    if (o == null || o instanceof String || seen.put(o, true) != null) return;
    if (o.getClass().isArray()) {
      elements += Array.getLength(o);
      if (!o.getClass().getComponentType().isPrimitive()) {
        for (int i = 0; i < Array.getLength(o); i++) walk(Array.get(o, i), seen);
      }
      return;
    }
    for (Field f : o.getClass().getDeclaredFields()) {
      if (Modifier.isStatic(f.getModifiers())) continue;
      elements++;
      f.setAccessible(true);
      if (!f.getType().isPrimitive()) walk(f.get(o), seen);
    }
  }
}
