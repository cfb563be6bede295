import java.lang.reflect.Array;
import java.lang.reflect.Field;
import java.lang.reflect.Modifier;
import java.util.ArrayDeque;
import java.util.Collections;
import java.util.IdentityHashMap;
import java.util.Set;

/** What an object comes to when it has made all that it can: the room of all calls is bounded. */
public final class RoomTest {
    private final Set<Object> seen = Collections.newSetFromMap(new IdentityHashMap<>());
    private final ArrayDeque<Object> left = new ArrayDeque<>();
    private int slots;

    public static void main(String[] args) throws IllegalAccessException {
        Check check = new Check();
        check.due("objects and arrays of a new object", of(new TabledOrigin()).seen.size(), 25);
        TabledOrigin x = sixtyFullAnswers();
        check.due("three new entries in each answer", x.count(Steps.MADE), 180);
        RoomTest room = of(x);
        check.due("objects and arrays", room.seen.size(), 205);
        check.due("fields and elements", room.slots, 2210);
        theOtherCallsMakeNothing(check, x);
        check.finish();
    }

    private static TabledOrigin sixtyFullAnswers() {
        TabledOrigin x = new TabledOrigin();
        for (int i = 0; i < 60; i++) {
            x.get(i % 6);
        }
        for (int i = 0; i < 60; i++) {
            x.put(i % 6, -i, i);
            x.arrive(i);
            x.insert();
            x.insert();
            x.insert();
            x.reply(i);
            x.feedback();
        }
        return x;
    }

    private static void theOtherCallsMakeNothing(Check check, TabledOrigin x) throws IllegalAccessException {
        RandomCalls calls = new RandomCalls(1);
        for (int i = 0; i < 5000; i++) {
            calls.next().on(x);
        }
        check.due("objects and arrays after 5000 calls more", of(x).seen.size(), 205);
    }

    private static RoomTest of(TabledOrigin x) throws IllegalAccessException {
        RoomTest room = new RoomTest();
        room.reach(x);
        while (!room.left.isEmpty()) {
            Object one = room.left.remove();
            if (one.getClass().isArray()) {
                room.walkArray(one);
            } else {
                room.walkFields(one);
            }
        }
        return room;
    }

    private void reach(Object one) {
        if (one != null && seen.add(one)) {
            left.add(one);
        }
    }

    private void walkArray(Object array) {
        int length = Array.getLength(array);
        slots += length;
        if (!array.getClass().getComponentType().isPrimitive()) {
            for (int i = 0; i < length; i++) {
                reach(Array.get(array, i));
            }
        }
    }

    private void walkFields(Object one) throws IllegalAccessException {
        for (Field field : one.getClass().getDeclaredFields()) {
            if (!Modifier.isStatic(field.getModifiers())) {
                slots++;
                if (!field.getType().isPrimitive()) {
                    field.setAccessible(true);
                    reach(field.get(one));
                }
            }
        }
    }
}
