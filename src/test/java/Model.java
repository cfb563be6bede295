import java.util.ArrayDeque;
import java.util.ArrayList;
import java.util.HashMap;
import java.util.List;
import java.util.Map;
import java.util.Set;
import java.util.TreeMap;
import java.util.TreeSet;

/**
 * The document told a second time, with the Java library and without regard to room: the client
 * reads references through its own copy of the instructions, and every count is made anew.
 */
final class Model {
    private static final int NONE = -1;

    private record Field(int name, int value) {
    }

    private record Line(int reference, Field literal) {
    }

    private record Made(int tag, int content, int lifetime) {
    }

    private record Kept(int tag, int content, int lifetime, int since, int request) {
    }

    private record Message(int status, List<Line> lines, int need) {
    }

    private record Feedback(int kind, int number) {
    }

    private static final class Ask {
        int resource;
        boolean put;
        int content;
        int lifetime;
        Kept base;
        int sent;
        int outcome;
        int shown;
    }

    private final Map<Integer, Made> resources = new HashMap<>();
    private int tags;
    private final Map<Integer, Kept> kept = new HashMap<>();
    private int clock;
    private final List<Ask> asks = new ArrayList<>();

    private final Set<Integer> toServer = new TreeSet<>();
    private final Map<Integer, Message> toClient = new TreeMap<>();
    private final Map<Integer, Message> waiting = new TreeMap<>();
    private final Map<Integer, Message> answered = new TreeMap<>();
    private final Set<Integer> outstanding = new TreeSet<>();

    private final List<Field> entries = new ArrayList<>();
    private final List<Field> clientEntries = new ArrayList<>();
    private int known;
    private int told;
    private int literals;
    private int references;
    private final ArrayDeque<Feedback> road = new ArrayDeque<>();

    private int limit = NONE;
    private boolean noticed;

    int put(int resource, int content, int lifetime) {
        if (outside(resource, 0, 5) || outside(lifetime, 0, 1000)) {
            return NONE;
        }
        resources.put(resource, new Made(++tags, content, lifetime));
        return tags;
    }

    boolean drop(int resource) {
        return resources.remove(resource) != null;
    }

    int get(int resource) {
        return outside(resource, 0, 5) ? NONE : ask(resource, false, 0, 0);
    }

    int replace(int resource, int content, int lifetime) {
        if (outside(resource, 0, 5) || outside(lifetime, 0, 1000)) {
            return NONE;
        }
        return ask(resource, true, content, lifetime);
    }

    private int ask(int resource, boolean put, int content, int lifetime) {
        if (asks.size() == 60) {
            return NONE;
        }
        Ask ask = new Ask();
        ask.resource = resource;
        ask.put = put;
        ask.content = content;
        ask.lifetime = lifetime;
        Kept have = kept.get(resource);
        if (!put && have != null && clock - have.since < have.lifetime) {
            ask.outcome = 8;
            ask.shown = have.content;
        } else if (noticed) {
            ask.outcome = 7;
        } else {
            ask.sent = clock;
            ask.base = have;
            toServer.add(asks.size());
        }
        asks.add(ask);
        return asks.size() - 1;
    }

    int arrive(int request) {
        if (!toServer.remove(request)) {
            return NONE;
        }
        if (limit != NONE && request >= limit) {
            return 0;
        }
        Message message = answer(asks.get(request));
        answered.put(request, message);
        toClient.put(request, message);
        if (message.need > 0) {
            outstanding.add(request);
        }
        return message.status;
    }

    private Message answer(Ask ask) {
        Made made = resources.get(ask.resource);
        boolean bearsItsTag = made != null && ask.base != null && ask.base.tag == made.tag;
        if (ask.put) {
            if (ask.base != null && !bearsItsTag) {
                return write(412, List.of());
            }
            resources.put(ask.resource, new Made(++tags, ask.content, ask.lifetime));
            return write(200, List.of(new Field(0, tags)));
        }
        if (made == null) {
            return write(404, List.of());
        }
        Field tag = new Field(0, made.tag);
        Field lifetime = new Field(1, made.lifetime);
        return bearsItsTag
            ? write(304, List.of(tag, lifetime))
            : write(200, List.of(tag, lifetime, new Field(2, made.content)));
    }

    private Message write(int status, List<Field> fields) {
        Set<Integer> mine = new TreeSet<>();
        List<Line> lines = new ArrayList<>();
        for (Field field : fields) {
            boolean risk = mine.stream().anyMatch(n -> n >= known) || atRisk() < 2;
            int same = entries.lastIndexOf(field);
            boolean live = same >= Math.max(0, entries.size() - 5);
            int reference = NONE;
            if (live && (same < known || risk)) {
                reference = same;
            } else if (!live && risk && room(mine)) {
                entries.add(field);
                reference = entries.size() - 1;
            }
            if (reference == NONE) {
                literals++;
            } else {
                references++;
                mine.add(reference);
            }
            lines.add(new Line(reference, reference == NONE ? field : null));
        }
        int need = mine.stream().mapToInt(n -> n + 1).max().orElse(0);
        return new Message(status, lines, need);
    }

    private boolean room(Set<Integer> mine) {
        int oldest = entries.size() - 5;
        return oldest < 0 || oldest < known && uses(oldest) == 0 && !mine.contains(oldest);
    }

    private int uses(int number) {
        int uses = 0;
        for (int request : outstanding) {
            for (Line line : answered.get(request).lines) {
                uses += line.reference == number ? 1 : 0;
            }
        }
        return uses;
    }

    private int atRisk() {
        return (int) outstanding.stream().filter(q -> answered.get(q).need > known).count();
    }

    int reply(int request) {
        Message message = toClient.remove(request);
        if (message == null) {
            return NONE;
        }
        if (message.need > clientEntries.size()) {
            waiting.put(request, message);
            return 0;
        }
        read(request, message);
        return asks.get(request).outcome;
    }

    private void read(int q, Message message) {
        int[] values = new int[3];
        for (Line line : message.lines) {
            Field field = line.reference == NONE ? line.literal : clientEntries.get(line.reference);
            values[field.name] = field.value;
        }
        Ask ask = asks.get(q);
        Kept have = kept.get(ask.resource);
        boolean older = have != null && have.request < q;
        if (message.status == 200 && !ask.put) {
            ask.outcome = 1;
            ask.shown = values[2];
            if (have == null || older) {
                kept.put(ask.resource, new Kept(values[0], values[2], values[1], ask.sent, q));
            }
        } else if (message.status == 304) {
            ask.outcome = 2;
            ask.shown = ask.base.content;
            if (older && have.tag == values[0]) {
                kept.put(ask.resource, new Kept(have.tag, have.content, values[1], ask.sent, q));
            }
        } else if (message.status == 412) {
            ask.outcome = 5;
        } else {
            ask.outcome = message.status == 404 ? 3 : 4;
            if (older) {
                kept.remove(ask.resource);
            }
        }
        if (message.need != 0) {
            road.add(new Feedback(0, q));
            told = Math.max(told, message.need);
        }
    }

    int insert() {
        if (clientEntries.size() == entries.size()) {
            return NONE;
        }
        clientEntries.add(entries.get(clientEntries.size()));
        List<Integer> ready = new ArrayList<>();
        waiting.forEach((q, message) -> {
            if (message.need <= clientEntries.size()) {
                ready.add(q);
            }
        });
        for (int q : ready) {
            read(q, waiting.remove(q));
        }
        return ready.size();
    }

    int feedback() {
        Feedback next = road.poll();
        if (next == null) {
            return NONE;
        }
        if (next.kind == 2) {
            known += next.number;
        } else {
            outstanding.remove(next.number);
        }
        if (next.kind == 0) {
            known = Math.max(known, answered.get(next.number).need);
        }
        return next.kind;
    }

    boolean report() {
        int come = clientEntries.size();
        if (come <= told) {
            return false;
        }
        road.add(new Feedback(2, come - told));
        told = come;
        return true;
    }

    int goaway() {
        if (limit == NONE) {
            limit = answered.keySet().stream().mapToInt(q -> q + 1).max().orElse(0);
        }
        return limit;
    }

    int notice() {
        if (limit == NONE || noticed) {
            return NONE;
        }
        noticed = true;
        int refused = 0;
        for (int q = limit; q < asks.size(); q++) {
            if (asks.get(q).outcome == 0) {
                asks.get(q).outcome = 7;
                toServer.remove(q);
                refused++;
            }
        }
        return refused;
    }

    boolean cancel(int request) {
        if (outcome(request) != 0) {
            return false;
        }
        asks.get(request).outcome = 6;
        toServer.remove(request);
        toClient.remove(request);
        waiting.remove(request);
        road.add(new Feedback(1, request));
        return true;
    }

    boolean tick(int n) {
        if (outside(n, 0, 1000)) {
            return false;
        }
        clock += n;
        return true;
    }

    int outcome(int request) {
        return outside(request, 0, asks.size() - 1) ? NONE : asks.get(request).outcome;
    }

    int content(int request) {
        return outside(request, 0, asks.size() - 1) ? NONE : asks.get(request).shown;
    }

    int stored(int resource, int which) {
        Kept have = kept.get(resource);
        if (have == null || outside(which, 0, 3)) {
            return NONE;
        }
        int left = Math.max(0, have.since + have.lifetime - clock);
        return List.of(have.tag, have.content, have.request, left).get(which);
    }

    int entry(int k, int which) {
        int live = Math.min(5, entries.size());
        if (outside(k, 0, live - 1) || outside(which, 0, 2)) {
            return NONE;
        }
        int number = entries.size() - 1 - k;
        Field field = entries.get(number);
        return List.of(field.name, field.value, uses(number)).get(which);
    }

    int count(int which) {
        if (outside(which, 0, 8)) {
            return NONE;
        }
        int[] counts = {
            entries.size(), known, clientEntries.size(), told, literals, references,
            outstanding.size(), atRisk(), waiting.size()
        };
        return counts[which];
    }

    private static boolean outside(int number, int least, int most) {
        return number < least || number > most;
    }
}
