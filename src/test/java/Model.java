import java.util.ArrayList;
import java.util.Comparator;
import java.util.List;
import java.util.TreeMap;

/** The document told once more, as plainly as the Java library allows, to compare the program with. */
final class Model {
    private static final int NONE = -1000;

    private record Method(int result, int code, int length) { }

    private record Trouble(int code, boolean gaveUp) { }

    private record Event(int[] fields, List<Trouble> list) { }

    private static final class Node {
        int number;
        Node parent;
        int order;
        int tags;
        boolean disabled;
        boolean shared;
        int rounds;
        int deadline;
        int instance;
        final TreeMap<Integer, Method> methods = new TreeMap<>();
        final List<Node> children = new ArrayList<>();

        boolean isContainer() {
            return rounds == 0;
        }

        /** Node 0 first, this one last. */
        List<Node> line() {
            List<Node> line = parent == null ? new ArrayList<>() : parent.line();
            line.add(this);
            return line;
        }

        int allTags() {
            return line().stream().mapToInt(node -> node.tags).reduce(0, (a, b) -> a | b);
        }
    }

    private final List<Node> nodes = new ArrayList<>();
    private List<Event> events = new ArrayList<>();
    private int wanted;
    private int unwanted;
    private int broken;
    private int time;
    private int calls;
    private int made;
    private int chosenTests;

    Model() {
        nodes.add(new Node());
    }

    private Node node(int number) {
        return number >= 0 && number < nodes.size() ? nodes.get(number) : null;
    }

    private static boolean out(int value, int low, int high) {
        return value < low || value > high;
    }

    int container(int parent, int order, boolean shared) {
        Node above = node(parent);
        if (above == null || !above.isContainer() || above.line().size() > 3 || out(order, 0, 99)) return -1;
        return add(above, order, shared, 0, 0);
    }

    int test(int parent, int order, int rounds, int deadline) {
        Node above = node(parent);
        if (above == null || !above.isContainer() || out(order, 0, 99)) return -1;
        if (out(rounds, 1, 3) || out(deadline, 1, 50)) return -1;
        return add(above, order, false, rounds, deadline);
    }

    private int add(Node parent, int order, boolean shared, int rounds, int deadline) {
        if (nodes.size() == 24) return -2;
        Node node = new Node();
        node.number = nodes.size();
        node.parent = parent;
        node.order = order;
        node.shared = shared;
        node.rounds = rounds;
        node.deadline = deadline;
        for (int round = 0; round < rounds; round++) node.methods.put(4 + round, new Method(0, 0, 0));
        nodes.add(node);
        parent.children.add(node);
        parent.children.sort(Comparator.comparingInt(child -> child.order));
        return node.number;
    }

    int mark(int number, int tags, boolean disabled) {
        Node node = node(number);
        if (node == null || out(tags, 0, 255)) return -1;
        node.tags = tags;
        node.disabled = disabled;
        return 0;
    }

    int method(int number, int kind, int result, int code, int length) {
        Node node = node(number);
        if (node == null || out(result, 0, 2) || out(code, 0, 99) || out(length, 0, 50)) return -1;
        if (node.isContainer() ? out(kind, 0, 3) : out(kind, 4, 3 + node.rounds)) return -1;
        node.methods.put(kind, new Method(result, code, length));
        return 0;
    }

    int without(int number, int kind) {
        Node node = node(number);
        if (node == null || !node.isContainer()) return -1;
        return node.methods.remove(kind) == null ? -1 : 0;
    }

    int run(int newWanted, int newUnwanted, int newBroken) {
        if (out(newWanted, 0, 255) || out(newUnwanted, 0, 255) || out(newBroken, 0, 9)) return -1;
        wanted = newWanted;
        unwanted = newUnwanted;
        broken = newBroken;
        time = 0;
        calls = 0;
        made = 0;
        events = new ArrayList<>();
        chosenTests = (int) nodes.stream().filter(node -> !node.isContainer() && chosen(node)).count();
        doNode(nodes.get(0));
        return events.stream().anyMatch(event -> event.fields[0] == 2 && event.fields[4] == 1) ? 1 : 0;
    }

    private boolean chosen(Node node) {
        if (node.isContainer()) return node.children.stream().anyMatch(this::chosen);
        int tags = node.allTags();
        return (wanted == 0 || (tags & wanted) != 0) && (tags & unwanted) == 0;
    }

    private boolean isBroken() {
        return broken > 0 && rounds(1) >= broken;
    }

    private void doNode(Node node) {
        if (!chosen(node)) return;
        if (node.disabled || isBroken()) {
            write(3, node, 0, List.of(), 0);
        } else if (node.isContainer()) {
            doContainer(node);
        } else {
            for (int round = 0; round < node.rounds; round++) {
                if (round > 0 && isBroken()) {
                    write(3, node, round, List.of(), 0);
                    break;
                }
                doRound(node, round);
            }
        }
    }

    private void doContainer(Node node) {
        write(1, node, 0, List.of(), 0);
        if (node.shared) node.instance = ++made;
        List<Trouble> list = new ArrayList<>();
        call(node, 0, list);
        if (list.isEmpty()) node.children.forEach(this::doNode);
        call(node, 3, list);
        write(2, node, 0, list, node.shared ? node.instance : 0);
    }

    private void doRound(Node test, int round) {
        write(1, test, round, List.of(), 0);
        List<Node> line = test.parent.line();
        for (Node node : line) if (!node.shared) node.instance = ++made;
        List<Trouble> list = new ArrayList<>();
        List<Node> toClose = new ArrayList<>();
        for (Node node : line) {
            if (!list.isEmpty()) break;
            toClose.add(0, node);
            call(node, 1, list);
        }
        if (list.isEmpty()) call(test, 4 + round, list);
        for (Node node : toClose) call(node, 2, list);
        write(2, test, round, list, test.parent.instance);
    }

    private void call(Node node, int kind, List<Trouble> list) {
        Method method = node.methods.get(kind);
        if (method == null) return;
        calls++;
        boolean late = !node.isContainer() && method.length > node.deadline;
        time += late ? node.deadline : method.length;
        if (late) list.add(new Trouble(100, false));
        else if (method.result != 0) list.add(new Trouble(method.code, method.result == 2));
    }

    private void write(int kind, Node node, int round, List<Trouble> list, int instance) {
        int[] fields = {kind, node.number, round, time, 0, 0, 0, 0};
        if (kind == 2) {
            fields[4] = list.isEmpty() ? 0 : list.get(0).gaveUp ? 2 : 1;
            fields[5] = list.isEmpty() ? -1 : list.get(0).code;
            fields[6] = list.isEmpty() ? 0 : list.size() - 1;
            fields[7] = instance;
        }
        events.add(new Event(fields, list));
    }

    int event(int i, int what) {
        if (out(i, 0, Math.min(events.size(), 150) - 1) || out(what, 0, 7)) return NONE;
        return events.get(i).fields[what];
    }

    int trouble(int i, int k) {
        if (out(i, 0, Math.min(events.size(), 150) - 1) || out(k, 0, 3)) return NONE;
        List<Trouble> list = events.get(i).list;
        return k < list.size() ? list.get(k).code : NONE;
    }

    private int rounds(int status) {
        return (int) events.stream().filter(event -> event.fields[0] == 2 && event.fields[4] == status
                && !nodes.get(event.fields[1]).isContainer()).count();
    }

    int count(int what) {
        switch (what) {
            case 0: return nodes.size();
            case 1: return events.size();
            case 2: case 3: case 4: return rounds(what - 2);
            case 5: return (int) events.stream().filter(event -> event.fields[0] == 3).count();
            case 6: return (int) events.stream().filter(event -> event.fields[4] != 0
                    && nodes.get(event.fields[1]).isContainer()).count();
            case 7: return made;
            case 8: return time;
            case 9: return calls;
            case 10: return chosenTests;
            default: return NONE;
        }
    }
}
