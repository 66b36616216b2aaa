import java.lang.management.ManagementFactory;
import java.lang.reflect.Array;
import java.lang.reflect.Field;
import java.lang.reflect.Modifier;
import java.util.Collections;
import java.util.IdentityHashMap;
import java.util.Set;

/** What a new object takes of the room that all calls of a run share, and that no call takes more of it. */
public final class RoomTests {
  private static final int MOST_OBJECTS = 100;
  private static final int MOST_ELEMENTS = 30000;

  private long objects = 0;
  private long elements = 0;
  private final Set<Object> seen = Collections.newSetFromMap(new IdentityHashMap<>());

  public static void main(String[] args) throws Exception {
    RoomTests room = new RoomTests();
    room.count(new WantShelves());
    System.out.println("a new object: " + room.objects + " objects and arrays, " + room.elements + " fields and elements");
    Due.is("objects and arrays are few", room.objects <= MOST_OBJECTS, true);
    Due.is("fields and elements are few", room.elements <= MOST_ELEMENTS, true);
    callsMakeNothing();
    Due.close();
  }

  private void count(Object o) throws Exception {
    if (o == null || !seen.add(o)) return;
    objects++;
    if (o.getClass().isArray()) {
      elements += Array.getLength(o);
      if (o instanceof Object[] all) for (Object one : all) count(one);
      return;
    }
    for (Field f : o.getClass().getDeclaredFields()) {
      if (Modifier.isStatic(f.getModifiers())) continue;
      elements++;
      f.setAccessible(true);
      if (!f.getType().isPrimitive()) count(f.get(o));
    }
  }

  private static void callsMakeNothing() {
    com.sun.management.ThreadMXBean bean = (com.sun.management.ThreadMXBean) ManagementFactory.getThreadMXBean();
    long id = Thread.currentThread().getId();
    WantShelves x = Due.told(Samples.full("quarrel turns;law want-reads;bend old+weight-4;"));
    everyCall(x);
    long before = bean.getThreadAllocatedBytes(id);
    everyCall(x);
    long after = bean.getThreadAllocatedBytes(id);
    // Asking for the number may take some bytes itself; one new row of any call would take more, 100 times over.
    Due.is("calls make nothing, bytes " + (after - before), after - before < 2000, true);
  }

  private static void everyCall(WantShelves x) {
    for (int i = 0; i < 5; i++) {
      x.feed(0x20202020, 0x20202020, 0x20202020, 0x20202020, 0x20202020);
      x.end(10);
      // "topic x;book a x 10;": a FAULT, so that the library stays.
      x.end(0);
      x.feed(0x746F7069, 0x6320783B, 0x626F6F6B, 0x20612078, 0x2031303B);
      x.library();
      x.fault(0);
      x.weight(0, 0);
      x.wants(0, 0);
      x.reader(0, 3);
      x.key(0, 0);
      x.place(63, 5);
      x.book(63, 5);
      x.steps(3);
      x.comes(i);
      x.mood(i, 1);
      x.out(9);
      x.read(i, i);
      x.undo();
      x.redo();
      x.undo();
      x.unlike(0, 1);
      x.send(3, 0);
      x.think(0, 3, 0);
      x.errand(255, 3);
      x.leads(0, 60);
      x.hide(0, 3, 5, 2);
      x.pretend(1, 0, 2);
      x.rest(0, 1, 2);
      x.left(i);
      x.was(0);
      x.hush();
      x.one();
      x.crowd(2, 5, 0);
      x.lies(0);
      x.look(0, 0, 1);
      x.untell(i);
      x.later(1);
      x.fit(0, 2, 1);
      x.sure(0, 0, true, 2, 1);
      x.ask(0, 2, 0, 1);
      x.image(0);
      x.back(0);
      x.about(0);
    }
  }
}
