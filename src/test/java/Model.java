import java.util.ArrayDeque;
import java.util.ArrayList;
import java.util.Deque;
import java.util.List;
import java.util.TreeSet;
import java.util.regex.Matcher;
import java.util.regex.Pattern;

/**
 * The document once more, for tests only, and built another way than the class: states are whole copies, costs are
 * worked out anew from the leaves for each question, and texts are read by a pattern.
 */
final class Model {
    private static final Pattern GAME;

    static {
        String position = "(?:1[0-9]|[0-9])";
        String entry = position + "(?:>" + position + "(?:\\." + position + ")*|[wld])";
        GAME = Pattern.compile(entry + "(?:," + entry + ")*");
    }

    private record Move(int from, int to) {
    }

    private static final class Branch {
        final int position;
        final int number;
        final Branch parent;
        final List<Branch> children = new ArrayList<>();

        Branch(int position, int number, Branch parent) {
            this.position = position;
            this.number = number;
            this.parent = parent;
        }

        boolean isLoop(State s) {
            if (s.isEnd(position)) {
                return false;
            }
            for (Branch b = parent; b != null; b = b.parent) {
                if (b.position == position) {
                    return true;
                }
            }
            return false;
        }

        /** The cost to prove it for side 0, to disprove it for side 1. */
        int cost(State s, int side) {
            if (children.isEmpty()) {
                if (s.isEnd(position)) {
                    return (s.mark[position] == 1) == (side == 0) ? 0 : 9999;
                }
                if (isLoop(s)) {
                    return side == 0 ? 9999 : 0;
                }
                return side == 0 ? s.prove[position] : s.disprove[position];
            }
            int sum = 0;
            int least = 9999;
            for (Branch child : children) {
                int cost = child.cost(s, side);
                sum += cost;
                least = Math.min(least, cost);
            }
            return s.turn[position] == side ? least : Math.min(sum, 9999);
        }

        Branch choice(State s) {
            int side = s.turn[position];
            Branch best = null;
            for (Branch child : children) {
                if (best == null || child.cost(s, side) < best.cost(s, side)) {
                    best = child;
                }
            }
            return best;
        }

        int depth() {
            return parent == null ? 0 : parent.depth() + 1;
        }
    }

    private static final class State {
        final int[] turn = new int[20];
        final int[] mark = new int[20];
        final int[] prove = new int[20];
        final int[] disprove = new int[20];
        final List<Move> moves = new ArrayList<>();
        final List<Branch> tree = new ArrayList<>();

        State() {
            java.util.Arrays.fill(prove, 1);
            java.util.Arrays.fill(disprove, 1);
        }

        State copy() {
            State s = new State();
            System.arraycopy(turn, 0, s.turn, 0, 20);
            System.arraycopy(mark, 0, s.mark, 0, 20);
            System.arraycopy(prove, 0, s.prove, 0, 20);
            System.arraycopy(disprove, 0, s.disprove, 0, 20);
            s.moves.addAll(moves);
            for (Branch b : tree) {
                Branch parent = b.parent == null ? null : s.tree.get(b.parent.number);
                Branch twin = new Branch(b.position, b.number, parent);
                if (parent != null) {
                    parent.children.add(twin);
                }
                s.tree.add(twin);
            }
            return s;
        }

        List<Integer> targets(int from) {
            List<Integer> targets = new ArrayList<>();
            for (Move m : moves) {
                if (m.from() == from) {
                    targets.add(m.to());
                }
            }
            return targets;
        }

        boolean isEnd(int p) {
            return mark[p] != 0 || targets(p).isEmpty();
        }

        int cost(int side) {
            return tree.get(0).cost(this, side);
        }

        int decided() {
            if (tree.isEmpty()) {
                return 0;
            }
            return cost(0) == 0 ? 1 : cost(1) == 0 ? 2 : 0;
        }

        List<Branch> way() {
            List<Branch> way = new ArrayList<>();
            if (!tree.isEmpty() && decided() == 0) {
                for (Branch b = tree.get(0); b != null; b = b.choice(this)) {
                    way.add(b);
                }
            }
            return way;
        }

        boolean openOnce() {
            List<Branch> way = way();
            if (way.isEmpty()) {
                return false;
            }
            Branch leaf = way.get(way.size() - 1);
            List<Integer> targets = targets(leaf.position);
            if (tree.size() + targets.size() > 200) {
                return false;
            }
            for (int target : targets) {
                Branch child = new Branch(target, tree.size(), leaf);
                leaf.children.add(child);
                tree.add(child);
            }
            return true;
        }

        /** The rounds of all positions, as sets that grow until one is like the one before. */
        int[] rounds() {
            int[] rounds = new int[20];
            java.util.Arrays.fill(rounds, -5);
            TreeSet<Integer> won = new TreeSet<>();
            for (int round = 0;; round++) {
                TreeSet<Integer> next = new TreeSet<>(won);
                for (int p = 0; p < 20; p++) {
                    List<Integer> targets = targets(p);
                    boolean wins = isEnd(p) ? mark[p] == 1
                        : turn[p] == 0 ? targets.stream().anyMatch(won::contains) : won.containsAll(targets);
                    if (wins) {
                        next.add(p);
                    }
                }
                if (next.equals(won)) {
                    return rounds;
                }
                for (int p : next) {
                    if (rounds[p] < 0) {
                        rounds[p] = round;
                    }
                }
                won = next;
            }
        }

        int proofSize(Branch b, int winner) {
            int size = 1;
            if (b.children.isEmpty()) {
                return size;
            }
            if (turn[b.position] == winner) {
                return size + proofSize(firstFree(b, winner), winner);
            }
            for (Branch child : b.children) {
                size += proofSize(child, winner);
            }
            return size;
        }

        Branch firstFree(Branch b, int winner) {
            for (Branch child : b.children) {
                if (child.cost(this, winner) == 0) {
                    return child;
                }
            }
            throw new IllegalStateException("no child is decided");
        }
    }

    private State now = new State();
    private State snapshot = null;
    private final Deque<State> history = new ArrayDeque<>();
    private String text = "";

    private static boolean bad(int value, int least, int most) {
        return value < least || value > most;
    }

    /** Records the state and goes on with a copy of it. */
    private void act(boolean leavesTree) {
        history.addLast(now);
        if (history.size() > 4) {
            history.removeFirst();
        }
        now = now.copy();
        if (!leavesTree) {
            now.tree.clear();
        }
    }

    int setPosition(int p, int turn, int mark) {
        if (bad(p, 0, 19)) {
            return -1;
        }
        if (bad(turn, 0, 1) || bad(mark, 0, 2)) {
            return -2;
        }
        int before = now.mark[p];
        if (before == mark && now.turn[p] == turn) {
            return -5;
        }
        act(false);
        now.turn[p] = turn;
        now.mark[p] = mark;
        return before;
    }

    int guess(int p, int prove, int disprove) {
        if (bad(p, 0, 19)) {
            return -1;
        }
        if (bad(prove, 1, 9) || bad(disprove, 1, 9)) {
            return -2;
        }
        int before = now.prove[p];
        if (before == prove && now.disprove[p] == disprove) {
            return -5;
        }
        act(false);
        now.prove[p] = prove;
        now.disprove[p] = disprove;
        return before;
    }

    int addMove(int from, int to) {
        if (bad(from, 0, 19) || bad(to, 0, 19)) {
            return -1;
        }
        Move move = new Move(from, to);
        if (now.moves.contains(move)) {
            return -5;
        }
        if (now.moves.size() == 60) {
            return -3;
        }
        act(false);
        now.moves.add(move);
        return now.targets(from).size();
    }

    int removeMove(int from, int to) {
        Move move = new Move(from, to);
        if (!now.moves.contains(move)) {
            return -1;
        }
        act(false);
        now.moves.remove(move);
        return now.targets(from).size();
    }

    private static boolean canGoOn(String start) {
        Matcher m = GAME.matcher(start);
        return m.matches() || m.hitEnd();
    }

    int readGame() {
        if (!GAME.matcher(text).matches()) {
            int fault = text.length();
            while (!canGoOn(text.substring(0, fault))) {
                fault--;
            }
            return -100 - fault;
        }
        act(false);
        now.moves.clear();
        java.util.Arrays.fill(now.mark, 0);
        java.util.Arrays.fill(now.turn, 0);
        for (String entry : text.split(",")) {
            int arrow = entry.indexOf('>');
            if (arrow < 0) {
                int p = Integer.parseInt(entry.substring(0, entry.length() - 1));
                switch (entry.charAt(entry.length() - 1)) {
                    case 'w' -> now.mark[p] = 1;
                    case 'l' -> now.mark[p] = 2;
                    default -> now.turn[p] = 1;
                }
                continue;
            }
            for (String to : entry.substring(arrow + 1).split("\\.")) {
                Move move = new Move(Integer.parseInt(entry.substring(0, arrow)), Integer.parseInt(to));
                if (!now.moves.contains(move)) {
                    now.moves.add(move);
                }
            }
        }
        return now.moves.size();
    }

    int begin(int p) {
        if (bad(p, 0, 19)) {
            return -1;
        }
        act(false);
        now.tree.add(new Branch(p, 0, null));
        return now.cost(0);
    }

    int open(int times) {
        if (bad(times, 1, 100)) {
            return -2;
        }
        if (now.tree.isEmpty()) {
            return -4;
        }
        State before = now.copy();
        int opened = 0;
        while (opened < times && now.openOnce()) {
            opened++;
        }
        if (opened == 0) {
            return -5;
        }
        State after = now;
        now = before;
        act(true);
        now = after;
        return opened;
    }

    int type(char c) {
        if (text.length() == 60) {
            return -3;
        }
        text += c;
        return text.length();
    }

    int clearText() {
        int length = text.length();
        text = "";
        return length;
    }

    int undo() {
        if (history.isEmpty()) {
            return -5;
        }
        now = history.removeLast();
        return history.size();
    }

    int keep() {
        snapshot = now.copy();
        return now.moves.size();
    }

    int restore() {
        if (snapshot == null) {
            return -5;
        }
        act(true);
        now = snapshot.copy();
        return now.moves.size();
    }

    int position(int p, int what) {
        if (bad(p, 0, 19)) {
            return -1;
        }
        return switch (what) {
            case 0 -> now.turn[p];
            case 1 -> now.mark[p];
            case 2 -> now.prove[p];
            case 3 -> now.disprove[p];
            case 4 -> now.targets(p).size();
            case 5 -> now.isEnd(p) ? 1 : 0;
            case 6 -> now.rounds()[p] >= 0 ? 1 : 0;
            case 7 -> now.rounds()[p];
            default -> -2;
        };
    }

    int move(int p, int rank) {
        if (bad(p, 0, 19)) {
            return -1;
        }
        if (rank < 0) {
            return -2;
        }
        List<Integer> targets = now.targets(p);
        return rank < targets.size() ? targets.get(rank) : -5;
    }

    int node(int node, int what) {
        if (bad(node, 0, now.tree.size() - 1)) {
            return -1;
        }
        Branch b = now.tree.get(node);
        return switch (what) {
            case 0 -> b.position;
            case 1 -> b.parent == null ? -5 : b.parent.number;
            case 2 -> b.cost(now, 0);
            case 3 -> b.cost(now, 1);
            case 4 -> b.children.size();
            case 5 -> b.children.isEmpty() ? -5 : b.children.get(0).number;
            case 6 -> b.depth();
            case 7 -> b.isLoop(now) ? 1 : 0;
            default -> -2;
        };
    }

    int way(int depth) {
        if (depth < 0) {
            return -2;
        }
        List<Branch> way = now.way();
        return depth < way.size() ? way.get(depth).number : -5;
    }

    int playOut(int answers, int what) {
        if (answers < 0 || bad(what, 0, 2)) {
            return -2;
        }
        if (now.decided() == 0) {
            return -4;
        }
        int winner = now.decided() - 1;
        int left = answers;
        int played = 0;
        Branch b = now.tree.get(0);
        while (!b.children.isEmpty()) {
            if (now.turn[b.position] == winner) {
                b = now.firstFree(b, winner);
            } else {
                int count = b.children.size();
                b = b.children.get(left % count);
                left /= count;
            }
            played++;
        }
        return what == 0 ? played : what == 1 ? b.position : b.number;
    }

    int proofSize() {
        if (now.decided() == 0) {
            return -4;
        }
        return now.proofSize(now.tree.get(0), now.decided() - 1);
    }

    int count(int what) {
        if (what >= 2 && what <= 7 && now.tree.isEmpty()) {
            return -5;
        }
        return switch (what) {
            case 0 -> now.moves.size();
            case 1 -> now.tree.size();
            case 2 -> now.cost(0);
            case 3 -> now.cost(1);
            case 4 -> now.decided();
            case 5 -> (int) now.tree.stream().filter(b -> b.isLoop(now)).count();
            case 6 -> (int) now.tree.stream().filter(b -> !b.children.isEmpty()).count();
            case 7 -> now.tree.stream().mapToInt(Branch::depth).max().getAsInt();
            case 8 -> (int) java.util.Arrays.stream(now.rounds()).filter(r -> r >= 0).count();
            case 9 -> history.size();
            case 10 -> text.length();
            default -> -2;
        };
    }
}
