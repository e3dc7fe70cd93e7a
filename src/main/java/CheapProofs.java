/**
 * Positions of a game for an attacker and a defender, and a tree in which the position at its root is
 * proved won or lost by opening the cheapest leaf first.
 */
public final class CheapProofs {
    /** There is no such position, move or node. */
    public static final int UNKNOWN = -1;
    /** Another argument is out of range. */
    public static final int BAD_VALUE = -2;
    /** There is no more room. */
    public static final int FULL = -3;
    /** This is not possible. */
    public static final int NOT_POSSIBLE = -4;
    /** There is no such thing; not an error. */
    public static final int NONE = -5;

    private static final int POSITIONS = 20;
    private static final int MOST_MOVES = 60;
    private static final int MOST_NODES = 200;
    private static final int MOST_SIGNS = 60;
    private static final int MOST_STATES = 4;
    private static final int MOST_TIMES = 100;
    private static final int MOST_GUESS = 9;
    /** The cost of what is never proved; sums of costs stop here. */
    private static final int NEVER = 9999;

    private static final int ATTACKER = 0;
    private static final int DEFENDER = 1;

    private static final int UNMARKED = 0;
    private static final int WON = 1;
    private static final int LOST = 2;

    private static final int UNDECIDED = 0;
    private static final int PROVED = 1;
    private static final int DISPROVED = 2;

    private static final int ROOT = 0;
    private static final int FAULT_AT_START = -100;
    private static final int NO_FAULT = -1;

    private final State now;
    private final State snapshot;
    private boolean hasSnapshot;
    private final History history;
    private final Text text;
    private final Reader reader;
    private final Rounds rounds;
    private final Proof proof;

    /** Creates a game without moves. */
    public CheapProofs() {
        now = new State();
        snapshot = new State();
        hasSnapshot = false;
        history = new History();
        text = new Text();
        reader = new Reader(text);
        rounds = new Rounds();
        proof = new Proof();
    }

    // ---- games

    /** Sets the turn and the mark of a position; answers the previous mark. */
    public int setPosition(int position, int turn, int mark) {
        if (!isPosition(position)) {
            return UNKNOWN;
        }
        if (turn < ATTACKER || turn > DEFENDER || mark < UNMARKED || mark > LOST) {
            return BAD_VALUE;
        }
        Game game = now.game;
        int previous = game.marks.get(position);
        if (previous == mark && game.turns.get(position) == turn) {
            return NONE;
        }
        history.remember(now);
        game.turns.set(position, turn);
        game.marks.set(position, mark);
        now.tree.clear();
        return previous;
    }

    /** Sets the guesses of a position; answers the previous guess to prove it. */
    public int guess(int position, int prove, int disprove) {
        if (!isPosition(position)) {
            return UNKNOWN;
        }
        if (!isGuess(prove) || !isGuess(disprove)) {
            return BAD_VALUE;
        }
        Game game = now.game;
        int previous = game.proveGuesses.get(position);
        if (previous == prove && game.disproveGuesses.get(position) == disprove) {
            return NONE;
        }
        history.remember(now);
        game.proveGuesses.set(position, prove);
        game.disproveGuesses.set(position, disprove);
        now.tree.clear();
        return previous;
    }

    /** Adds a move; answers how many moves its position has then. */
    public int addMove(int from, int to) {
        if (!isPosition(from) || !isPosition(to)) {
            return UNKNOWN;
        }
        Game game = now.game;
        if (game.rankOf(from, to) != NONE) {
            return NONE;
        }
        if (game.moves >= MOST_MOVES) {
            return FULL;
        }
        history.remember(now);
        game.append(from, to);
        now.tree.clear();
        return game.moveCounts.get(from);
    }

    /** Removes a move; answers how many moves its position has then. */
    public int removeMove(int from, int to) {
        if (!isPosition(from) || !isPosition(to)) {
            return UNKNOWN;
        }
        Game game = now.game;
        int rank = game.rankOf(from, to);
        if (rank == NONE) {
            return UNKNOWN;
        }
        history.remember(now);
        game.removeAt(from, rank);
        now.tree.clear();
        return game.moveCounts.get(from);
    }

    /** Makes the game that of the text; answers how many moves there are then. */
    public int readGame() {
        int fault = reader.readText();
        if (fault != NO_FAULT) {
            return FAULT_AT_START - fault;
        }
        if (reader.draft.moves > MOST_MOVES) {
            return FULL;
        }
        history.remember(now);
        now.game.copyAllButGuesses(reader.draft);
        now.tree.clear();
        return now.game.moves;
    }

    // ---- the tree

    /** Begins a tree with its root; answers the root's cost to prove. */
    public int begin(int position) {
        if (!isPosition(position)) {
            return UNKNOWN;
        }
        history.remember(now);
        now.tree.plant(position);
        return now.tree.proves.get(ROOT);
    }

    /** Opens the tree some times; answers how many leaves are opened. */
    public int open(int times) {
        if (times < 1 || times > MOST_TIMES) {
            return BAD_VALUE;
        }
        Tree tree = now.tree;
        if (tree.isEmpty()) {
            return NOT_POSSIBLE;
        }
        if (!tree.canGrow()) {
            return NONE;
        }
        history.remember(now);
        int opened = 0;
        while (opened < times && tree.canGrow()) {
            tree.grow();
            opened++;
        }
        return opened;
    }

    // ---- texts

    /** Types a character behind the text; answers the length of the text then. */
    public int type(char character) {
        if (text.isFull()) {
            return FULL;
        }
        text.append(character);
        return text.length;
    }

    /** Empties the text; answers the length that it had. */
    public int clearText() {
        int previous = text.length;
        text.clear();
        return previous;
    }

    // ---- history

    /** Restores the latest state of the history; answers the number of states that are left. */
    public int undo() {
        if (history.size == 0) {
            return NONE;
        }
        history.takeLatest(now);
        return history.size;
    }

    /** Takes a snapshot of the state; answers the number of moves. */
    public int keep() {
        snapshot.copyFrom(now);
        hasSnapshot = true;
        return now.game.moves;
    }

    /** Restores the state of the snapshot; answers the number of moves then. */
    public int restore() {
        if (!hasSnapshot) {
            return NONE;
        }
        history.remember(now);
        now.copyFrom(snapshot);
        return now.game.moves;
    }

    // ---- what is told

    /** Tells a number of a position. */
    public int position(int position, int what) {
        if (!isPosition(position)) {
            return UNKNOWN;
        }
        Game game = now.game;
        switch (what) {
            case 0:
                return game.turns.get(position);
            case 1:
                return game.marks.get(position);
            case 2:
                return game.proveGuesses.get(position);
            case 3:
                return game.disproveGuesses.get(position);
            case 4:
                return game.moveCounts.get(position);
            case 5:
                return game.isEnd(position) ? 1 : 0;
            case 6:
                rounds.workOut(game);
                return rounds.isWon(position) ? 1 : 0;
            case 7:
                rounds.workOut(game);
                return rounds.roundOf(position);
            default:
                return BAD_VALUE;
        }
    }

    /** Tells the position to which a move leads. */
    public int move(int position, int rank) {
        if (!isPosition(position)) {
            return UNKNOWN;
        }
        if (rank < 0) {
            return BAD_VALUE;
        }
        return now.game.targetOf(position, rank);
    }

    /** Tells a number of a node. */
    public int node(int node, int what) {
        Tree tree = now.tree;
        if (!tree.has(node)) {
            return UNKNOWN;
        }
        switch (what) {
            case 0:
                return tree.positions.get(node);
            case 1:
                return tree.parents.get(node);
            case 2:
                return tree.proves.get(node);
            case 3:
                return tree.disproves.get(node);
            case 4:
                return tree.childCounts.get(node);
            case 5:
                return tree.firstChildren.get(node);
            case 6:
                return tree.depths.get(node);
            case 7:
                return tree.loops.get(node);
            default:
                return BAD_VALUE;
        }
    }

    /** Tells the node at a depth of the way to the leaf that is opened next. */
    public int way(int depth) {
        if (depth < 0) {
            return BAD_VALUE;
        }
        return now.tree.nodeOnWay(depth);
    }

    /** Plays a decided tree out against a row of answers. */
    public int playOut(int answers, int what) {
        if (answers < 0 || what < 0 || what > 2) {
            return BAD_VALUE;
        }
        Tree tree = now.tree;
        if (tree.outcome() == UNDECIDED) {
            return NOT_POSSIBLE;
        }
        int end = proof.endOf(tree, answers);
        if (what == 0) {
            return tree.depths.get(end);
        }
        return what == 1 ? tree.positions.get(end) : end;
    }

    /** Tells how many nodes the proof, or disproof, has. */
    public int proofSize() {
        if (now.tree.outcome() == UNDECIDED) {
            return NOT_POSSIBLE;
        }
        return proof.sizeOf(now.tree);
    }

    /** Tells a number of the whole. */
    public int count(int what) {
        if (what >= 2 && what <= 7) {
            return now.tree.isEmpty() ? NONE : tellTree(now.tree, what);
        }
        switch (what) {
            case 0:
                return now.game.moves;
            case 1:
                return now.tree.size;
            case 8:
                rounds.workOut(now.game);
                return rounds.wonPositions();
            case 9:
                return history.size;
            case 10:
                return text.length;
            default:
                return BAD_VALUE;
        }
    }

    private static int tellTree(Tree tree, int what) {
        switch (what) {
            case 2:
                return tree.proves.get(ROOT);
            case 3:
                return tree.disproves.get(ROOT);
            case 4:
                return tree.outcome();
            case 5:
                return tree.loopCount();
            case 6:
                return tree.openedCount();
            default:
                return tree.greatestDepth();
        }
    }

    private static boolean isPosition(int position) {
        return position >= 0 && position < POSITIONS;
    }

    private static boolean isGuess(int cost) {
        return cost >= 1 && cost <= MOST_GUESS;
    }

    /** A row of numbers that looks at each index before it uses it: a cell outside holds 0. */
    private static final class Row {
        private final int[] cells;

        Row(int length) {
            cells = new int[Math.max(0, length)];
        }

        int get(int index) {
            return index >= 0 && index < cells.length ? cells[index] : 0;
        }

        void set(int index, int value) {
            if (index >= 0 && index < cells.length) {
                cells[index] = value;
            }
        }

        void fill(int value) {
            for (int i = 0; i < cells.length; i++) {
                cells[i] = value;
            }
        }

        void copyFrom(Row other) {
            System.arraycopy(other.cells, 0, cells, 0, Math.min(other.cells.length, cells.length));
        }
    }

    /** The positions and their moves. */
    private static final class Game {
        private final Row turns = new Row(POSITIONS);
        private final Row marks = new Row(POSITIONS);
        private final Row proveGuesses = new Row(POSITIONS);
        private final Row disproveGuesses = new Row(POSITIONS);
        private final Row moveCounts = new Row(POSITIONS);
        /** The moves of position p, in their order, stand from index p * POSITIONS. */
        private final Row targets = new Row(POSITIONS * POSITIONS);
        private int moves;

        Game() {
            proveGuesses.fill(1);
            disproveGuesses.fill(1);
        }

        void copyFrom(Game other) {
            copyAllButGuesses(other);
            proveGuesses.copyFrom(other.proveGuesses);
            disproveGuesses.copyFrom(other.disproveGuesses);
        }

        void copyAllButGuesses(Game other) {
            turns.copyFrom(other.turns);
            marks.copyFrom(other.marks);
            moveCounts.copyFrom(other.moveCounts);
            targets.copyFrom(other.targets);
            moves = other.moves;
        }

        void clearAllButGuesses() {
            turns.fill(ATTACKER);
            marks.fill(UNMARKED);
            moveCounts.fill(0);
            moves = 0;
        }

        boolean isEnd(int position) {
            return marks.get(position) != UNMARKED || moveCounts.get(position) == 0;
        }

        boolean isWonEnd(int position) {
            return marks.get(position) == WON;
        }

        int targetOf(int position, int rank) {
            if (rank < 0 || rank >= moveCounts.get(position)) {
                return NONE;
            }
            return targets.get(position * POSITIONS + rank);
        }

        int rankOf(int from, int to) {
            int count = moveCounts.get(from);
            for (int rank = 0; rank < count; rank++) {
                if (targetOf(from, rank) == to) {
                    return rank;
                }
            }
            return NONE;
        }

        /** Appends a move that is not there yet, so that no position has more than POSITIONS moves. */
        void append(int from, int to) {
            int count = moveCounts.get(from);
            targets.set(from * POSITIONS + count, to);
            moveCounts.set(from, count + 1);
            moves++;
        }

        void removeAt(int from, int rank) {
            int left = moveCounts.get(from) - 1;
            for (int i = rank; i < left; i++) {
                targets.set(from * POSITIONS + i, targetOf(from, i + 1));
            }
            moveCounts.set(from, left);
            moves--;
        }
    }

    /** The tree over a game; it is empty if there is none. */
    private static final class Tree {
        private final Game game;
        private final Row positions = new Row(MOST_NODES);
        private final Row parents = new Row(MOST_NODES);
        private final Row depths = new Row(MOST_NODES);
        private final Row proves = new Row(MOST_NODES);
        private final Row disproves = new Row(MOST_NODES);
        private final Row childCounts = new Row(MOST_NODES);
        private final Row firstChildren = new Row(MOST_NODES);
        private final Row loops = new Row(MOST_NODES);
        private int size;

        Tree(Game game) {
            this.game = game;
        }

        void copyFrom(Tree other) {
            positions.copyFrom(other.positions);
            parents.copyFrom(other.parents);
            depths.copyFrom(other.depths);
            proves.copyFrom(other.proves);
            disproves.copyFrom(other.disproves);
            childCounts.copyFrom(other.childCounts);
            firstChildren.copyFrom(other.firstChildren);
            loops.copyFrom(other.loops);
            size = other.size;
        }

        void clear() {
            size = 0;
        }

        boolean isEmpty() {
            return size == 0;
        }

        boolean has(int node) {
            return node >= 0 && node < size;
        }

        boolean isLeaf(int node) {
            return childCounts.get(node) == 0;
        }

        /** The node behind the last child: children are made one after the other. */
        int endOfChildren(int node) {
            return firstChildren.get(node) + childCounts.get(node);
        }

        int turnAt(int node) {
            return game.turns.get(positions.get(node));
        }

        /** Whether the root is proved, disproved, or neither; without a tree it is neither. */
        int outcome() {
            if (isEmpty()) {
                return UNDECIDED;
            }
            if (proves.get(ROOT) == 0) {
                return PROVED;
            }
            return disproves.get(ROOT) == 0 ? DISPROVED : UNDECIDED;
        }

        void plant(int position) {
            clear();
            addLeaf(position, NONE);
        }

        private void addLeaf(int position, int parent) {
            int node = size;
            size++;
            positions.set(node, position);
            parents.set(node, parent);
            depths.set(node, has(parent) ? depths.get(parent) + 1 : 0);
            childCounts.set(node, 0);
            firstChildren.set(node, NONE);
            loops.set(node, 0);
            setLeafCosts(node, position, parent);
        }

        private void setLeafCosts(int node, int position, int parent) {
            if (game.isEnd(position)) {
                boolean won = game.isWonEnd(position);
                setCosts(node, won ? 0 : NEVER, won ? NEVER : 0);
            } else if (isOnWayTo(parent, position)) {
                loops.set(node, 1);
                setCosts(node, NEVER, 0);
            } else {
                setCosts(node, game.proveGuesses.get(position), game.disproveGuesses.get(position));
            }
        }

        private void setCosts(int node, int prove, int disprove) {
            proves.set(node, prove);
            disproves.set(node, disprove);
        }

        private boolean isOnWayTo(int last, int position) {
            int node = last;
            for (int step = 0; step < MOST_NODES && has(node); step++) {
                if (positions.get(node) == position) {
                    return true;
                }
                node = parents.get(node);
            }
            return false;
        }

        /** The first child with the least cost to the one whose turn it is. */
        int cheapestChild(int node) {
            Row costs = turnAt(node) == ATTACKER ? proves : disproves;
            int end = endOfChildren(node);
            int cheapest = firstChildren.get(node);
            for (int child = cheapest + 1; child < end; child++) {
                if (costs.get(child) < costs.get(cheapest)) {
                    cheapest = child;
                }
            }
            return cheapest;
        }

        private int leafOnWay() {
            int node = ROOT;
            for (int step = 0; step < MOST_NODES && !isLeaf(node); step++) {
                node = cheapestChild(node);
            }
            return node;
        }

        int nodeOnWay(int depth) {
            if (isEmpty() || outcome() != UNDECIDED || depth >= MOST_NODES) {
                return NONE;
            }
            int node = ROOT;
            for (int step = 0; step < depth; step++) {
                if (isLeaf(node)) {
                    return NONE;
                }
                node = cheapestChild(node);
            }
            return node;
        }

        /** Whether there is a leaf that comes next, and room for its children. */
        boolean canGrow() {
            if (isEmpty() || outcome() != UNDECIDED) {
                return false;
            }
            return game.moveCounts.get(positions.get(leafOnWay())) <= MOST_NODES - size;
        }

        /** Opens the leaf that comes next; only for a tree that can grow. */
        void grow() {
            int leaf = leafOnWay();
            int position = positions.get(leaf);
            int count = game.moveCounts.get(position);
            firstChildren.set(leaf, size);
            childCounts.set(leaf, count);
            for (int rank = 0; rank < count; rank++) {
                addLeaf(game.targetOf(position, rank), leaf);
            }
            workOutFrom(leaf);
        }

        private void workOutFrom(int lowest) {
            int node = lowest;
            for (int step = 0; step < MOST_NODES && has(node); step++) {
                workOut(node);
                node = parents.get(node);
            }
        }

        private void workOut(int node) {
            if (turnAt(node) == ATTACKER) {
                setCosts(node, leastOfChildren(node, proves), sumOfChildren(node, disproves));
            } else {
                setCosts(node, sumOfChildren(node, proves), leastOfChildren(node, disproves));
            }
        }

        private int leastOfChildren(int node, Row costs) {
            int end = endOfChildren(node);
            int least = NEVER;
            for (int child = firstChildren.get(node); child < end; child++) {
                least = Math.min(least, costs.get(child));
            }
            return least;
        }

        private int sumOfChildren(int node, Row costs) {
            int end = endOfChildren(node);
            int sum = 0;
            for (int child = firstChildren.get(node); child < end; child++) {
                sum = Math.min(NEVER, sum + costs.get(child));
            }
            return sum;
        }

        int loopCount() {
            int count = 0;
            for (int node = 0; node < size; node++) {
                count += loops.get(node);
            }
            return count;
        }

        int openedCount() {
            int count = 0;
            for (int node = 0; node < size; node++) {
                if (!isLeaf(node)) {
                    count++;
                }
            }
            return count;
        }

        int greatestDepth() {
            int greatest = 0;
            for (int node = 0; node < size; node++) {
                greatest = Math.max(greatest, depths.get(node));
            }
            return greatest;
        }
    }

    /** The way through a decided tree that its winner takes. */
    private static final class Proof {
        private final Row members = new Row(MOST_NODES);

        private static int winnerOf(Tree tree) {
            return tree.outcome() == PROVED ? ATTACKER : DEFENDER;
        }

        int endOf(Tree tree, int answers) {
            int winner = winnerOf(tree);
            int left = answers;
            int node = ROOT;
            for (int step = 0; step < MOST_NODES; step++) {
                int count = tree.childCounts.get(node);
                if (count <= 0) {
                    return node;
                }
                if (tree.turnAt(node) == winner) {
                    // The winner's cost of this node is 0, so that of its cheapest child is 0 too.
                    node = tree.cheapestChild(node);
                } else {
                    node = tree.firstChildren.get(node) + left % count;
                    left = left / count;
                }
            }
            return node;
        }

        /** Counts by one pass: a child has a greater number than its parent. */
        int sizeOf(Tree tree) {
            int winner = winnerOf(tree);
            int count = 0;
            members.fill(0);
            members.set(ROOT, 1);
            for (int node = 0; node < tree.size; node++) {
                if (members.get(node) == 1) {
                    count++;
                    takeChildren(tree, node, winner);
                }
            }
            return count;
        }

        private void takeChildren(Tree tree, int node, int winner) {
            if (tree.isLeaf(node)) {
                return;
            }
            if (tree.turnAt(node) == winner) {
                members.set(tree.cheapestChild(node), 1);
                return;
            }
            int end = tree.endOfChildren(node);
            for (int child = tree.firstChildren.get(node); child < end; child++) {
                members.set(child, 1);
            }
        }
    }

    /** Who wins, found by rounds without the tree. */
    private static final class Rounds {
        private final Row wonIn = new Row(POSITIONS);

        void workOut(Game game) {
            wonIn.fill(NONE);
            for (int position = 0; position < POSITIONS; position++) {
                if (game.isWonEnd(position)) {
                    wonIn.set(position, 0);
                }
            }
            // Each round but the last wins a position more, so there are no more rounds than positions.
            for (int round = 1; round <= POSITIONS; round++) {
                playRound(game, round);
            }
        }

        private void playRound(Game game, int round) {
            for (int position = 0; position < POSITIONS; position++) {
                if (!isWon(position) && !game.isEnd(position) && isWonBy(game, position, round)) {
                    wonIn.set(position, round);
                }
            }
        }

        private boolean isWonBy(Game game, int position, int round) {
            int count = game.moveCounts.get(position);
            int wins = 0;
            for (int rank = 0; rank < count; rank++) {
                int target = game.targetOf(position, rank);
                if (isWon(target) && roundOf(target) < round) {
                    wins++;
                }
            }
            return game.turns.get(position) == ATTACKER ? wins > 0 : wins == count;
        }

        boolean isWon(int position) {
            return wonIn.get(position) != NONE;
        }

        int roundOf(int position) {
            return wonIn.get(position);
        }

        int wonPositions() {
            int count = 0;
            for (int position = 0; position < POSITIONS; position++) {
                if (isWon(position)) {
                    count++;
                }
            }
            return count;
        }
    }

    /** All that undo and restore bring back. */
    private static final class State {
        private final Game game;
        private final Tree tree;

        State() {
            game = new Game();
            tree = new Tree(game);
        }

        void copyFrom(State other) {
            game.copyFrom(other.game);
            tree.copyFrom(other.tree);
        }
    }

    /** The latest states, the oldest first; their objects are made once and used again. */
    private static final class History {
        private final State[] states = new State[MOST_STATES];
        private int size;

        History() {
            for (int i = 0; i < states.length; i++) {
                states[i] = new State();
            }
        }

        void remember(State state) {
            if (size >= states.length) {
                dropOldest();
            }
            copy(state, stateAt(size));
            size++;
        }

        void takeLatest(State into) {
            if (size > 0) {
                size--;
                copy(stateAt(size), into);
            }
        }

        private State stateAt(int index) {
            return index >= 0 && index < states.length ? states[index] : null;
        }

        private static void copy(State from, State into) {
            if (from != null && into != null) {
                into.copyFrom(from);
            }
        }

        /** Brings the object of the oldest state to the end, where it is used again. */
        private void dropOldest() {
            for (int i = 1; i < states.length; i++) {
                State older = states[i - 1];
                states[i - 1] = states[i];
                states[i] = older;
            }
            size--;
        }
    }

    /** The characters that are typed. */
    private static final class Text {
        private static final int END = -1;

        private final char[] signs = new char[MOST_SIGNS];
        private int length;

        boolean isFull() {
            return length >= signs.length;
        }

        void append(char sign) {
            if (length >= 0 && length < signs.length) {
                signs[length] = sign;
                length++;
            }
        }

        void clear() {
            length = 0;
        }

        int signAt(int index) {
            return index >= 0 && index < length && index < signs.length ? signs[index] : END;
        }
    }

    /** Reads the text into a draft of a game; it stops at the first sign that is not allowed. */
    private static final class Reader {
        private final Text text;
        private final Game draft = new Game();
        private int at;

        Reader(Text text) {
            this.text = text;
        }

        /** Answers the fault of the text, or NO_FAULT. */
        int readText() {
            draft.clearAllButGuesses();
            at = 0;
            for (int entry = 0; entry < MOST_SIGNS; entry++) {
                if (!readEntry()) {
                    return at;
                }
                if (text.signAt(at) == Text.END) {
                    return NO_FAULT;
                }
                if (!skip(',')) {
                    return at;
                }
            }
            return at;
        }

        private boolean readEntry() {
            int position = readPosition();
            if (position == NONE) {
                return false;
            }
            if (skip('w')) {
                draft.marks.set(position, WON);
                return true;
            }
            if (skip('l')) {
                draft.marks.set(position, LOST);
                return true;
            }
            if (skip('d')) {
                draft.turns.set(position, DEFENDER);
                return true;
            }
            return skip('>') && readTargets(position);
        }

        private boolean readTargets(int from) {
            for (int count = 0; count < MOST_SIGNS; count++) {
                int to = readPosition();
                if (to == NONE) {
                    return false;
                }
                if (draft.rankOf(from, to) == NONE) {
                    draft.append(from, to);
                }
                if (!skip('.')) {
                    return true;
                }
            }
            return false;
        }

        /** Reads one digit, or two if they make a position; answers NONE if there is no digit. */
        private int readPosition() {
            int first = digit();
            if (first == NONE) {
                return NONE;
            }
            at++;
            int second = digit();
            if (first != 1 || second == NONE) {
                return first;
            }
            at++;
            return 10 + second;
        }

        private int digit() {
            int sign = text.signAt(at);
            return sign >= '0' && sign <= '9' ? sign - '0' : NONE;
        }

        private boolean skip(char wanted) {
            if (text.signAt(at) != wanted) {
                return false;
            }
            at++;
            return true;
        }
    }
}
