import java.util.Arrays;

/** A ball up and a name: who is thrown at, by what chance, and how whole games of it go. */
public final class BallAndName {
    public static final int BAD = -1, NO = -2, FULL = -3, NONE = -4;

    private static final int MOST_PLAYERS = 5;
    private static final int MOST_BYTES = 300;
    private static final int LEAST_GROUND = 5;
    private static final int MOST_GROUND = 40;
    private static final int USUAL_GROUND = 30;
    private static final int MOST_SLIDE = 3;
    private static final int USUAL_SLIDE = 1;
    private static final int MOST_HEIGHT = 9;
    private static final int MOST_LETTERS = 3;
    private static final int MOST_STEPS = 3;
    private static final int SURE = 10;
    private static final int MOST_SEEN = 8;
    private static final int MOST_UNDONE = 8;
    private static final int MOST_KEPT = 2;
    private static final int MOST_AFTERNOON = 9999;

    private static final int KINDS_IN_ALL = 4;
    private static final int LATE = 1;
    private static final int BOLD = 2;
    private static final int DUCKING = 3;

    private final Text text = new Text();
    private final Reader reader = new Reader();
    private final Round round = new Round();
    private final Game game = round.game;
    private final Game draft = new Game();
    private final SafeCall safeCall = new SafeCall();
    private final ManyRounds manyRounds = new ManyRounds();
    private final Sightings sightings = new Sightings();
    private final Shelf undone = new Shelf(MOST_UNDONE);
    private final Shelf kept = new Shelf(MOST_KEPT);

    public BallAndName() {
        game.addPlayer(10, 2, 5, 5, 0);
        game.addPlayer(14, 2, 5, 3, 0);
        game.addPlayer(20, 3, 4, 6, 0);
        game.tellUntoldCalls();
    }

    // ---- games

    public int write(int n, long v) {
        if (!within(n, 1, 8)) {
            return BAD;
        }
        return text.hasRoomFor(n) ? text.append(n, v) : FULL;
    }

    public int wipe() {
        return text.empty();
    }

    public int fault() {
        return reader.read(text, draft);
    }

    public int lay() {
        if (reader.read(text, draft) != NONE || !draft.canBePlayed()) {
            return NO;
        }
        draft.tellUntoldCalls();
        game.copyFrom(draft);
        sightings.empty();
        undone.empty();
        kept.empty();
        return game.count;
    }

    public int player(int i, int what) {
        if (!game.has(i)) {
            return BAD;
        }
        Player player = game.who(i);
        switch (what) {
            case 0: return player.start;
            case 1: return player.pace;
            case 2: return player.size;
            case 3: return player.skill;
            case 4: return player.kind;
            case 5: return player.told.letters;
            default: return BAD;
        }
    }

    public int called(int i, int what) {
        if (!game.has(i)) {
            return BAD;
        }
        Told told = game.who(i).told;
        switch (what) {
            case 0: return told.callee;
            case 1: return told.cell;
            case 2: return told.height;
            case 3:
                round.playAsTold(i);
                return round.beats;
            default: return BAD;
        }
    }

    // ---- rounds

    public int stands(int i, int k) {
        if (!game.has(i) || !game.has(k)) {
            return BAD;
        }
        round.playAsTold(i);
        return round.standOf(k);
    }

    public int chance(int i, int k) {
        if (!canBeHit(i, k)) {
            return BAD;
        }
        round.playAsTold(i);
        return round.chanceOf(k);
    }

    public int thrown(int i, int what) {
        if (!game.has(i) || !within(what, 0, 1)) {
            return BAD;
        }
        round.playAsTold(i);
        int target = round.target();
        return what == 0 ? target : round.chanceOf(target);
    }

    public int hidden(int i, int k) {
        if (!canBeHit(i, k)) {
            return BAD;
        }
        round.playAsTold(i);
        return round.hiderOf(k);
    }

    // ---- what is best

    public int safe(int i, int what) {
        if (!game.has(i) || !within(what, 0, 3)) {
            return BAD;
        }
        safeCall.search(round, i);
        if (!safeCall.found) {
            return NONE;
        }
        switch (what) {
            case 0: return safeCall.callee;
            case 1: return safeCall.cell;
            case 2: return safeCall.height;
            default: return safeCall.chance;
        }
    }

    public int run(int i, int k, int what) {
        if (!canBeHit(i, k) || !within(what, 0, 1)) {
            return BAD;
        }
        round.playAsTold(i);
        int bestKind = 0;
        int least = SURE + 1;
        for (int kind = 0; kind < KINDS_IN_ALL; kind++) {
            round.suppose(k, kind);
            int chance = round.target() == k ? round.chanceOf(k) : 0;
            if (chance < least) {
                least = chance;
                bestKind = kind;
            }
        }
        return what == 0 ? bestKind : least;
    }

    // ---- games of many rounds

    public long first(int i, int k, int part) {
        if (!game.has(i) || !game.has(k) || !within(part, 0, 1)) {
            return BAD;
        }
        manyRounds.prepareThrows(round);
        manyRounds.weigh(game, i);
        return inLowestTerms(manyRounds.outWeight(k), part);
    }

    public long rounds(int i, int part) {
        if (!game.has(i) || !within(part, 0, 1)) {
            return BAD;
        }
        manyRounds.prepareThrows(round);
        manyRounds.weigh(game, i);
        return inLowestTerms(manyRounds.playedWeight, part);
    }

    // ---- changes

    public int call(int i, int j, int b, int h) {
        if (!game.has(i) || !game.has(j) || i == j || !game.onGround(b) || !within(h, 1, MOST_HEIGHT)) {
            return BAD;
        }
        undone.putNewest(game);
        game.who(i).told.tellCall(j, b, h);
        return undone.size;
    }

    public int letters(int i, int l) {
        if (!game.has(i) || !within(l, 0, MOST_LETTERS)) {
            return BAD;
        }
        undone.putNewest(game);
        Told told = game.who(i).told;
        int had = told.letters;
        told.letters = l;
        return had;
    }

    public int undo() {
        if (undone.size == 0) {
            return NO;
        }
        undone.takeNewest(game);
        return undone.size;
    }

    // ---- seen, afternoons

    public int seen(int i, int k, int x) {
        if (!game.has(i) || !game.has(k) || !game.onGround(x)) {
            return BAD;
        }
        return sightings.size < MOST_SEEN ? sightings.add(i, k, x) : FULL;
    }

    public int forget() {
        return sightings.empty();
    }

    public int kinds(int k) {
        return game.has(k) ? sightings.kindsOf(k, round) : BAD;
    }

    public int afternoon(int z, int what) {
        if (!within(z, 0, MOST_AFTERNOON) || !within(what, 0, 1)) {
            return BAD;
        }
        manyRounds.prepareThrows(round);
        manyRounds.playAfternoon(game, z);
        return what == 0 ? manyRounds.afternoonOut : manyRounds.afternoonRounds;
    }

    public int keep() {
        if (kept.size >= MOST_KEPT) {
            return FULL;
        }
        kept.putNewest(game);
        return kept.size;
    }

    public int back() {
        if (kept.size == 0) {
            return NO;
        }
        kept.takeNewest(game);
        undone.empty();
        return kept.size;
    }

    public int count(int what) {
        switch (what) {
            case 0: return game.count;
            case 1: return game.lastCell;
            case 2: return game.slide;
            case 3: return sightings.size;
            case 4: return undone.size;
            case 5: return kept.size;
            case 6: return text.length;
            default: return BAD;
        }
    }

    private boolean canBeHit(int i, int k) {
        return game.has(i) && game.has(k) && k != game.who(i).told.callee;
    }

    private static boolean within(int number, int least, int most) {
        return number >= least && number <= most;
    }

    /** The weight as a part of ManyRounds.WHOLE. That is a power of ten, so only 2 and 5 can divide both. */
    private static long inLowestTerms(long weight, int part) {
        long above = weight;
        long below = ManyRounds.WHOLE;
        for (int i = 0; i < ManyRounds.MOST_ROUNDS; i++) {
            if (above % 2 == 0 && below % 2 == 0) {
                above /= 2;
                below /= 2;
            }
            if (above % 5 == 0 && below % 5 == 0) {
                above /= 5;
                below /= 5;
            }
        }
        return part == 0 ? above : below;
    }

    /** Rows of numbers in which every index is tested before it is used. */
    private static final class Rows {
        static int at(int[] row, int i) {
            return i >= 0 && i < row.length ? row[i] : 0;
        }

        static void put(int[] row, int i, int number) {
            if (i >= 0 && i < row.length) {
                row[i] = number;
            }
        }

        static long longAt(long[] row, int i) {
            return i >= 0 && i < row.length ? row[i] : 0;
        }

        static void addLong(long[] row, int i, long number) {
            if (i >= 0 && i < row.length) {
                row[i] += number;
            }
        }
    }

    /** THE TEXT. */
    private static final class Text {
        private static final int NO_BYTE = -1;

        final int[] bytes = new int[MOST_BYTES];
        int length = 0;

        boolean hasRoomFor(int n) {
            return length + n <= MOST_BYTES;
        }

        int append(int n, long v) {
            for (int left = n - 1; left >= 0; left--) {
                Rows.put(bytes, length, (int) (v >>> (8 * left)) & 255);
                length++;
            }
            return length;
        }

        int empty() {
            int was = length;
            length = 0;
            return was;
        }

        int byteAt(int place) {
            return place < length ? Rows.at(bytes, place) : NO_BYTE;
        }

        boolean hasFigureAt(int place) {
            return within(byteAt(place), '0', '9');
        }
    }

    /** Reads a text, item by item, into a game. */
    private static final class Reader {
        private static final int MOST_NUMBERS = 5;

        final int[] numbers = new int[MOST_NUMBERS];
        int count = 0;

        /** The place of the first item that is not so. NONE. */
        int read(Text text, Game game) {
            game.empty();
            int start = 0;
            while (start < text.length) {
                int end = readNumbers(text, start + 1);
                if (end <= start || !takeItem(text.byteAt(start), game)) {
                    return start;
                }
                start = end;
            }
            return NONE;
        }

        /** The place behind the item's last sign. NONE if these are no numbers with , and ; */
        private int readNumbers(Text text, int behindLetter) {
            int place = behindLetter;
            count = 0;
            for (int i = 0; i < MOST_NUMBERS; i++) {
                if (!text.hasFigureAt(place)) {
                    return NONE;
                }
                int number = text.byteAt(place) - '0';
                place++;
                if (text.hasFigureAt(place)) {
                    number = 10 * number + text.byteAt(place) - '0';
                    place++;
                }
                Rows.put(numbers, i, number);
                count = i + 1;
                int sign = text.byteAt(place);
                place++;
                if (sign == ';') {
                    return place;
                }
                if (sign != ',') {
                    return NONE;
                }
            }
            return NONE;
        }

        private boolean takeItem(int letter, Game game) {
            switch (letter) {
                case 'n': return takeGround(game);
                case 'p': return takePlayer(game);
                case 'a': return takeCall(game);
                case 'l': return takeLetters(game);
                case 'd': return takeSlide(game);
                default: return false;
            }
        }

        private boolean takeGround(Game game) {
            if (count != 1 || !within(number(0), LEAST_GROUND, MOST_GROUND)) {
                return false;
            }
            game.lastCell = number(0);
            return true;
        }

        private boolean takePlayer(Game game) {
            if (count != 5 || game.count >= MOST_PLAYERS || !within(number(0), 0, MOST_GROUND)
                    || !within(number(1), 1, 5) || !within(number(2), 1, 9)
                    || !within(number(3), 0, 9) || !within(number(4), 0, KINDS_IN_ALL - 1)) {
                return false;
            }
            game.addPlayer(number(0), number(1), number(2), number(3), number(4));
            return true;
        }

        private boolean takeCall(Game game) {
            if (count != 4 || !game.has(number(0)) || !game.has(number(1)) || number(0) == number(1)
                    || !within(number(2), 0, MOST_GROUND) || !within(number(3), 1, MOST_HEIGHT)) {
                return false;
            }
            game.who(number(0)).told.tellCall(number(1), number(2), number(3));
            return true;
        }

        private boolean takeLetters(Game game) {
            if (count != 2 || !game.has(number(0)) || !within(number(1), 0, MOST_LETTERS)) {
                return false;
            }
            game.who(number(0)).told.letters = number(1);
            return true;
        }

        private boolean takeSlide(Game game) {
            if (count != 1 || !within(number(0), 0, MOST_SLIDE)) {
                return false;
            }
            game.slide = number(0);
            return true;
        }

        private int number(int i) {
            return Rows.at(numbers, i);
        }
    }

    /** What can be told anew of a player: his call and his letters. */
    private static final class Told {
        int callee = NONE;
        int cell = 0;
        int height = 1;
        int letters = 0;

        void tellCall(int newCallee, int newCell, int newHeight) {
            callee = newCallee;
            cell = newCell;
            height = newHeight;
        }

        void copyFrom(Told other) {
            tellCall(other.callee, other.cell, other.height);
            letters = other.letters;
        }
    }

    private static final class Player {
        final Told told = new Told();
        int start = 0;
        int pace = 1;
        int size = 1;
        int skill = 0;
        int kind = 0;

        void become(int newStart, int newPace, int newSize, int newSkill, int newKind) {
            start = newStart;
            pace = newPace;
            size = newSize;
            skill = newSkill;
            kind = newKind;
        }

        void copyFrom(Player other) {
            become(other.start, other.pace, other.size, other.skill, other.kind);
            told.copyFrom(other.told);
        }
    }

    /** The ground, the players and what is told of them. */
    private static final class Game {
        final Player[] players = new Player[MOST_PLAYERS];
        final Player nobody = new Player();
        int count = 0;
        int lastCell = USUAL_GROUND;
        int slide = USUAL_SLIDE;

        Game() {
            for (int i = 0; i < players.length; i++) {
                players[i] = new Player();
            }
        }

        boolean has(int i) {
            return i >= 0 && i < count;
        }

        boolean onGround(int x) {
            return x >= 0 && x <= lastCell;
        }

        Player who(int i) {
            Player player = i >= 0 && i < players.length ? players[i] : null;
            return player == null ? nobody : player;
        }

        void empty() {
            count = 0;
            lastCell = USUAL_GROUND;
            slide = USUAL_SLIDE;
        }

        void addPlayer(int start, int pace, int size, int skill, int kind) {
            if (count >= MOST_PLAYERS) {
                return;
            }
            Player player = who(count);
            player.become(start, pace, size, skill, kind);
            player.told.tellCall(NONE, 0, 1);
            player.told.letters = 0;
            count++;
        }

        /** Only now, as the next player may be told behind the one who calls him. */
        void tellUntoldCalls() {
            for (int i = 0; i < count; i++) {
                Told told = who(i).told;
                if (told.callee == NONE) {
                    int next = i + 1 < count ? i + 1 : 0;
                    told.tellCall(next, who(next).start, 1);
                }
            }
        }

        /** Only the call that counts must be on the ground, not one that a later item told anew. */
        boolean canBePlayed() {
            if (count < 2) {
                return false;
            }
            for (int i = 0; i < count; i++) {
                if (!onGround(who(i).start) || !onGround(who(i).told.cell)) {
                    return false;
                }
            }
            return true;
        }

        void copyFrom(Game other) {
            count = other.count;
            lastCell = other.lastCell;
            slide = other.slide;
            for (int i = 0; i < MOST_PLAYERS; i++) {
                who(i).copyFrom(other.who(i));
            }
        }
    }

    /** One round of its game: where all stand at stop, and what the one with the ball can do then. */
    private static final class Round {
        final Game game = new Game();
        final int[] kinds = new int[MOST_PLAYERS];
        final int[] stands = new int[MOST_PLAYERS];
        /** From where it would be thrown at each. */
        final int[] throwCells = new int[MOST_PLAYERS];
        int callee = 0;
        int cell = 0;
        int beats = 0;

        void playAsTold(int i) {
            Told told = game.who(i).told;
            playCall(told.callee, told.cell, told.height);
        }

        void playCall(int j, int b, int h) {
            callee = j;
            cell = b;
            beats = Math.max(h, beatsToBall(game.who(j)));
            for (int k = 0; k < game.count; k++) {
                suppose(k, game.who(k).kind);
            }
        }

        /** Player k is of this kind in the round that was played; the others stay where they stand. */
        void suppose(int k, int kind) {
            Player player = game.who(k);
            int away = player.start >= cell ? game.lastCell : 0;
            int goal = kind == BOLD ? cell : away;
            int beatsRun = kind == LATE ? beats - 1 : beats;
            int slide = kind == BOLD ? 0 : game.slide;
            int stop = k == callee ? cell : toward(goal, player.start, beatsRun * player.pace + slide);
            Rows.put(kinds, k, kind);
            Rows.put(stands, k, stop);
            Rows.put(throwCells, k, toward(stop, cell, MOST_STEPS));
        }

        int standOf(int k) {
            return Rows.at(stands, k);
        }

        /** At whom it is thrown. */
        int target() {
            int best = NONE;
            int greatest = -1;
            for (int k = 0; k < game.count; k++) {
                int chance = k == callee ? -1 : chanceOf(k);
                if (chance > greatest) {
                    greatest = chance;
                    best = k;
                }
            }
            return best;
        }

        int chanceOf(int k) {
            int size = game.who(k).size;
            int shown = Rows.at(kinds, k) == DUCKING ? size / 2 : size;
            int far = Math.abs(Rows.at(stands, k) - Rows.at(throwCells, k));
            int open = Math.min(SURE, Math.max(0, shown + game.who(callee).skill - far));
            return hiderOf(k) == NONE ? open : open / 2;
        }

        /** The lowest one behind whom player k is hidden. NONE. */
        int hiderOf(int k) {
            int low = Math.min(Rows.at(throwCells, k), Rows.at(stands, k));
            int high = Math.max(Rows.at(throwCells, k), Rows.at(stands, k));
            int size = game.who(k).size;
            for (int third = 0; third < game.count; third++) {
                int at = Rows.at(stands, third);
                boolean between = at > low && at < high;
                if (third != k && third != callee && between && game.who(third).size >= size) {
                    return third;
                }
            }
            return NONE;
        }

        private int beatsToBall(Player player) {
            int far = Math.abs(cell - player.start);
            return player.pace > 0 ? (far + player.pace - 1) / player.pace : far;
        }

        /** The cell so far from there to the goal, not beyond it. */
        private static int toward(int goal, int from, int far) {
            return goal >= from ? Math.min(goal, from + far) : Math.max(goal, from - far);
        }
    }

    /** The call by which it is not thrown at the one who calls. */
    private static final class SafeCall {
        boolean found = false;
        int callee = 0;
        int cell = 0;
        int height = 0;
        int chance = 0;

        void search(Round round, int i) {
            found = false;
            for (int j = 0; j < round.game.count; j++) {
                for (int b = 0; b <= round.game.lastCell; b++) {
                    for (int h = 1; h <= MOST_HEIGHT; h++) {
                        tryCall(round, i, j, b, h);
                    }
                }
            }
        }

        private void tryCall(Round round, int i, int j, int b, int h) {
            boolean bestIsFound = found && chance == 0;
            if (i == j || bestIsFound) {
                return;
            }
            round.playCall(j, b, h);
            int target = round.target();
            int newChance = round.chanceOf(target);
            boolean better = !found || newChance < chance;
            if (target != i && better) {
                found = true;
                callee = j;
                cell = b;
                height = h;
                chance = newChance;
            }
        }
    }

    /** Games from round to round till one is out. */
    private static final class ManyRounds {
        /** Each round gives a letter: three for all, and one more. */
        static final int MOST_ROUNDS = MOST_PLAYERS * MOST_LETTERS + 1;
        /** Ten to the power of MOST_ROUNDS, so that each round's tenths are whole numbers. */
        static final long WHOLE = 10_000_000_000_000_000L;

        static final int LETTER_BITS = 2;
        static final int ALL_LETTERS = 1 << (LETTER_BITS * MOST_PLAYERS);

        final int[] callees = new int[MOST_PLAYERS];
        final int[] targets = new int[MOST_PLAYERS];
        final int[] chances = new int[MOST_PLAYERS];
        /** How likely it is, of WHOLE, that with these letters the round is that of this player. */
        final long[] weights = new long[ALL_LETTERS * MOST_PLAYERS];
        final long[] outWeights = new long[MOST_PLAYERS];
        long playedWeight = 0;
        int afternoonOut = 0;
        int afternoonRounds = 0;

        long outWeight(int k) {
            return Rows.longAt(outWeights, k);
        }

        /** To be called ahead of weigh and playAfternoon: all rounds begin alike, so each throw stays the same. */
        void prepareThrows(Round round) {
            for (int i = 0; i < round.game.count; i++) {
                round.playAsTold(i);
                int target = round.target();
                Rows.put(callees, i, round.callee);
                Rows.put(targets, i, target);
                Rows.put(chances, i, round.chanceOf(target));
            }
        }

        void weigh(Game game, int starter) {
            Arrays.fill(weights, 0L);
            Arrays.fill(outWeights, 0L);
            playedWeight = 0;
            int start = lettersOf(game);
            Rows.addLong(weights, start * MOST_PLAYERS + starter, WHOLE);
            // A letter more makes the number of all letters greater: each weight is whole before it is shared out.
            for (int letters = start; letters < ALL_LETTERS; letters++) {
                for (int i = 0; i < game.count; i++) {
                    shareOut(letters, i);
                }
            }
        }

        private void shareOut(int letters, int i) {
            long weight = Rows.longAt(weights, letters * MOST_PLAYERS + i);
            if (weight == 0) {
                return;
            }
            // That many rounds are played on the mean as it is likely to come to each.
            playedWeight += weight;
            long tenth = weight / SURE;
            int chance = Rows.at(chances, i);
            giveLetter(letters, Rows.at(targets, i), tenth * chance);
            giveLetter(letters, Rows.at(callees, i), tenth * (SURE - chance));
        }

        private void giveLetter(int letters, int k, long weight) {
            if (lettersOf(letters, k) >= MOST_LETTERS) {
                Rows.addLong(outWeights, k, weight);
            } else {
                Rows.addLong(weights, (letters + oneLetterOf(k)) * MOST_PLAYERS + k, weight);
            }
        }

        void playAfternoon(Game game, int z) {
            int letters = lettersOf(game);
            int turn = 0;
            for (int t = 0; t < MOST_ROUNDS; t++) {
                int taker = draw(z, t) < Rows.at(chances, turn) ? Rows.at(targets, turn) : Rows.at(callees, turn);
                afternoonOut = taker;
                afternoonRounds = t + 1;
                if (lettersOf(letters, taker) >= MOST_LETTERS) {
                    return;
                }
                letters += oneLetterOf(taker);
                turn = taker;
            }
        }

        private static int draw(int z, int t) {
            long x = 7919L * z + 6151L * t + 1;
            return (int) (x * x % 65521 % 10);
        }

        /** The letters of all in one number. */
        private static int lettersOf(Game game) {
            int letters = 0;
            for (int k = 0; k < game.count; k++) {
                letters += game.who(k).told.letters * oneLetterOf(k);
            }
            return letters;
        }

        private static int lettersOf(int letters, int k) {
            return (letters >> (LETTER_BITS * k)) & MOST_LETTERS;
        }

        private static int oneLetterOf(int k) {
            return 1 << (LETTER_BITS * k);
        }
    }

    /** What is SEEN. */
    private static final class Sightings {
        final int[] callers = new int[MOST_SEEN];
        final int[] runners = new int[MOST_SEEN];
        final int[] cells = new int[MOST_SEEN];
        int size = 0;

        int add(int i, int k, int x) {
            Rows.put(callers, size, i);
            Rows.put(runners, size, k);
            Rows.put(cells, size, x);
            size++;
            return size;
        }

        int empty() {
            int was = size;
            size = 0;
            return was;
        }

        int kindsOf(int k, Round round) {
            int bits = 0;
            for (int kind = 0; kind < KINDS_IN_ALL; kind++) {
                if (allAreSo(k, kind, round)) {
                    bits |= 1 << kind;
                }
            }
            return bits;
        }

        private boolean allAreSo(int k, int kind, Round round) {
            for (int s = 0; s < size; s++) {
                if (Rows.at(runners, s) == k) {
                    round.playAsTold(Rows.at(callers, s));
                    round.suppose(k, kind);
                    if (round.standOf(k) != Rows.at(cells, s)) {
                        return false;
                    }
                }
            }
            return true;
        }
    }

    /** Calls and letters of all players as they stood, the newest on top; the oldest falls out. */
    private static final class Shelf {
        final int places;
        final Told[] copies;
        int size = 0;
        int newest = 0;

        Shelf(int howMany) {
            places = Math.max(1, howMany);
            copies = new Told[places * MOST_PLAYERS];
            for (int i = 0; i < copies.length; i++) {
                copies[i] = new Told();
            }
        }

        void empty() {
            size = 0;
        }

        void putNewest(Game game) {
            newest = newest + 1 < places ? newest + 1 : 0;
            size = Math.min(places, size + 1);
            for (int k = 0; k < MOST_PLAYERS; k++) {
                Told copy = copyOf(k);
                if (copy != null) {
                    copy.copyFrom(game.who(k).told);
                }
            }
        }

        void takeNewest(Game game) {
            if (size == 0) {
                return;
            }
            for (int k = 0; k < MOST_PLAYERS; k++) {
                Told copy = copyOf(k);
                if (copy != null) {
                    game.who(k).told.copyFrom(copy);
                }
            }
            newest = newest > 0 ? newest - 1 : places - 1;
            size--;
        }

        private Told copyOf(int k) {
            int i = newest * MOST_PLAYERS + k;
            return i >= 0 && i < copies.length ? copies[i] : null;
        }
    }
}
