import java.util.ArrayDeque;
import java.util.ArrayList;
import java.util.Comparator;
import java.util.Deque;
import java.util.List;
import java.util.NoSuchElementException;
import java.util.stream.Collectors;

/** A second quartermaster, written from the document alone in another manner: lists of objects, copies of everything. */
final class Oracle {
    static final class Sack {
        int kind;
        int weight;
        int worth;
        int place;
        int mule = -1;
        int side = -1;
        int day = -1;
        int told;

        Sack(int kind, int weight, int worth) {
            this.kind = kind;
            this.weight = weight;
            this.worth = worth;
            this.told = worth;
        }

        Sack copy() {
            Sack s = new Sack(kind, weight, told);
            s.worth = worth;
            s.place = place;
            s.mule = mule;
            s.side = side;
            s.day = day;
            return s;
        }

        void leave(int toPlace, int onDay) {
            place = toPlace;
            mule = -1;
            side = -1;
            day = onDay;
        }
    }

    static final class Mule {
        String name;
        int strength;
        int tired;

        Mule(String name, int strength, int tired) {
            this.name = name;
            this.strength = strength;
            this.tired = tired;
        }
    }

    static final class State {
        List<Sack> sacks = new ArrayList<>();
        List<Mule> mules = new ArrayList<>();
        List<int[]> way = new ArrayList<>();
        int[] settings = new int[3];
        int[] counts = new int[7];
        int day;
        int money;

        State copy() {
            State s = new State();
            for (Sack sack : sacks) {
                s.sacks.add(sack.copy());
            }
            for (Mule mule : mules) {
                s.mules.add(new Mule(mule.name, mule.strength, mule.tired));
            }
            for (int[] stage : way) {
                s.way.add(stage.clone());
            }
            s.settings = settings.clone();
            s.counts = counts.clone();
            s.day = day;
            s.money = money;
            return s;
        }

        List<Sack> on(int mule) {
            return sacks.stream().filter(s -> s.place == 1 && s.mule == mule).collect(Collectors.toList());
        }

        int side(int mule, int side) {
            return on(mule).stream().filter(s -> s.side == side).mapToInt(s -> s.weight).sum();
        }

        int load(int mule) {
            return side(mule, 0) + side(mule, 1);
        }

        int bears(int mule) {
            Mule m = mules.get(mule);
            return Math.floorDiv(m.strength * (100 - m.tired), 100);
        }

        int apart(int mule) {
            int l = side(mule, 0);
            int r = side(mule, 1);
            return l > r ? l - r : r - l;
        }

        int whyNot(int sack, int mule) {
            if (sacks.get(sack).place != 0) {
                return 1;
            }
            return load(mule) + sacks.get(sack).weight > bears(mule) ? 2 : 0;
        }

        int[] whyNoTrip() {
            if (sacks.stream().noneMatch(s -> s.place == 1)) {
                return new int[] {1, -1};
            }
            for (int m = 0; m < mules.size(); m++) {
                if (apart(m) > settings[0]) {
                    return new int[] {2, m};
                }
            }
            return new int[] {0, -1};
        }

        boolean shed(int mule, int limit) {
            boolean any = false;
            while (load(mule) > limit) {
                Sack least = on(mule).stream().min(Comparator.comparingInt(s -> s.worth)).get();
                counts[2] += least.worth;
                least.leave(3, day);
                any = true;
            }
            return any;
        }

        int trip() {
            int had = money;
            List<Integer> going = new ArrayList<>();
            for (int m = 0; m < mules.size(); m++) {
                if (!on(m).isEmpty()) {
                    going.add(m);
                }
            }
            for (int[] stage : way) {
                for (int m : going) {
                    pass(stage[0], stage[1], m);
                }
            }
            for (Sack s : sacks) {
                if (s.place == 1) {
                    money += s.worth;
                    counts[1] += s.worth;
                    s.leave(2, day);
                }
            }
            for (int i = 0; i < going.size(); i++) {
                money -= settings[2];
                counts[5] += settings[2];
            }
            counts[0]++;
            day++;
            return money - had;
        }

        void pass(int kind, int number, int m) {
            Mule mule = mules.get(m);
            if (kind == 0) {
                int more = number * (load(m) * 10 / mule.strength + 1) / 10;
                mule.tired = mule.tired + more > 100 ? 100 : mule.tired + more;
                shed(m, bears(m));
            } else if (kind == 1) {
                if (shed(m, bears(m) * (10 - number) / 10)) {
                    for (Sack s : on(m)) {
                        if (s.kind == 3) {
                            counts[4] += s.worth;
                            s.worth = 0;
                        }
                    }
                }
                if (number >= 5) {
                    for (Sack s : on(m)) {
                        int was = s.worth;
                        s.worth = s.kind == 0 ? was / 2 : s.kind == 1 ? 3 * was / 4 : was;
                        counts[3] += was - s.worth;
                        counts[6]++;
                    }
                }
            } else {
                int less = settings[1] * number / 10;
                mule.tired = mule.tired < less ? 0 : mule.tired - less;
            }
        }

        void rest(int days) {
            for (int d = 0; d < days; d++) {
                day++;
                for (Mule m : mules) {
                    m.tired = m.tired < settings[1] ? 0 : m.tired - settings[1];
                }
            }
        }

        int best(int mule) {
            int best = -1;
            for (int i = 0; i < sacks.size(); i++) {
                if (whyNot(i, mule) != 0) {
                    continue;
                }
                Sack s = sacks.get(i);
                if (best < 0 || (long) s.worth * sacks.get(best).weight > (long) sacks.get(best).worth * s.weight) {
                    best = i;
                }
            }
            return best;
        }

        int most(int from, int room) {
            if (from == sacks.size()) {
                return 0;
            }
            int without = most(from + 1, room);
            Sack s = sacks.get(from);
            if (s.place != 0 || s.weight > room) {
                return without;
            }
            return Math.max(without, s.worth + most(from + 1, room - s.weight));
        }

        int named(String name) {
            for (int m = 0; m < mules.size(); m++) {
                if (mules.get(m).name.equals(name)) {
                    return m;
                }
            }
            return -1;
        }
    }

    static final class Fault extends Exception {
        private static final long serialVersionUID = 1L;
        final int code;
        final int position;

        Fault(int code, int position) {
            this.code = code;
            this.position = position;
        }
    }

    static final class Token {
        final char sort;
        final String text;
        final int position;

        Token(char sort, String text, int position) {
            this.sort = sort;
            this.text = text;
            this.position = position;
        }
    }

    static final class Reading {
        final List<Token> tokens = new ArrayList<>();
        final State state = new State();
        int at;

        Reading(String text) {
            int i = 0;
            char last = 'e';
            while (i < text.length()) {
                int from = i;
                char c = text.charAt(i);
                if (c == ' ' || c == '\n') {
                    i++;
                    last = 'e';
                    continue;
                }
                char sort = c >= 'a' && c <= 'z' ? 'w' : c >= '0' && c <= '9' ? 'n' : c == ';' ? ';' : '?';
                i++;
                if (sort == 'w' || sort == 'n') {
                    while (i < text.length() && (sort == 'w' ? text.charAt(i) >= 'a' && text.charAt(i) <= 'z' : text.charAt(i) >= '0' && text.charAt(i) <= '9')) {
                        i++;
                    }
                }
                boolean run = sort == 'w' || sort == 'n';
                boolean bad = run && (last == 'w' || last == 'n') || sort == 'n' && i - from > 3;
                tokens.add(new Token(bad ? '?' : sort, text.substring(from, i), from));
                last = sort;
            }
            tokens.add(new Token('e', "", text.length()));
        }

        Token next(char sort) throws Fault {
            Token t = tokens.get(at);
            if (t.sort != sort) {
                throw new Fault(1, t.position);
            }
            at++;
            return t;
        }

        int number(int least, int most) throws Fault {
            Token t = next('n');
            int n = Integer.parseInt(t.text);
            if (n < least || n > most) {
                throw new Fault(2, t.position);
            }
            return n;
        }

        int oneOf(String... words) throws Fault {
            Token t = next('w');
            for (int i = 0; i < words.length; i++) {
                if (words[i].equals(t.text)) {
                    return i;
                }
            }
            throw new Fault(1, t.position);
        }

        Token name() throws Fault {
            Token t = next('w');
            if (t.text.length() > 6) {
                throw new Fault(1, t.position);
            }
            return t;
        }

        State all() throws Fault {
            oneOf("train");
            state.settings[0] = number(0, 99);
            state.settings[1] = number(0, 50);
            state.settings[2] = number(0, 50);
            while (tokens.get(at).sort == ';') {
                at++;
                line();
            }
            next('e');
            return state;
        }

        void line() throws Fault {
            int position = tokens.get(at).position;
            int line = oneOf("road", "ford", "camp", "mule", "sack", "pack", "trip", "rest");
            if (line <= 2) {
                if (state.way.size() == 8) {
                    throw new Fault(5, position);
                }
                state.way.add(new int[] {line, number(1, line == 0 ? 99 : line == 1 ? 9 : 24)});
            } else if (line == 3) {
                if (state.mules.size() == 6) {
                    throw new Fault(5, position);
                }
                Token name = name();
                if (state.named(name.text) >= 0) {
                    throw new Fault(4, name.position);
                }
                state.mules.add(new Mule(name.text, number(10, 300), 0));
            } else if (line == 4) {
                if (state.sacks.size() == 16) {
                    throw new Fault(5, position);
                }
                int kind = oneOf("grain", "cloth", "iron", "glass");
                int weight = number(1, 99);
                state.sacks.add(new Sack(kind, weight, number(0, 999)));
            } else if (line == 5) {
                pack();
            } else if (line == 6) {
                if (state.whyNoTrip()[0] != 0 || state.day == 9999) {
                    throw new Fault(6, position);
                }
                state.trip();
            } else {
                int days = number(1, 99);
                state.rest(days);
            }
        }

        void pack() throws Fault {
            int sack = number(0, state.sacks.size() - 1);
            Token name = name();
            int mule = state.named(name.text);
            if (mule < 0) {
                throw new Fault(3, name.position);
            }
            if (state.whyNot(sack, mule) != 0) {
                throw new Fault(6, name.position);
            }
            int side = oneOf("left", "right");
            Sack s = state.sacks.get(sack);
            s.place = 1;
            s.mule = mule;
            s.side = side;
        }
    }

    State now;
    final Deque<State> undos = new ArrayDeque<>();
    final State[] saved = new State[2];
    StringBuilder input = new StringBuilder();
    String output = "";
    int errorCode = 0;
    int errorPosition = -1;

    Oracle() {
        try {
            now = new Reading("train 20 10 3; mule jen 100; mule moll 60; sack grain 30 40; sack cloth 20 60; sack iron 50 30; sack glass 10 90; sack grain 25 20; road 40; ford 5; camp 8; pack 0 jen left; pack 3 jen right; pack 1 moll left").all();
        } catch (Fault f) {
            throw new AssertionError(f);
        }
    }

    private void changing() {
        undos.push(now.copy());
        if (undos.size() > 10) {
            undos.removeLast();
        }
    }

    private void muleMust(int mule) {
        if (mule < 0 || mule >= now.mules.size()) {
            throw new NoSuchElementException();
        }
    }

    private void sackMust(int sack) {
        if (sack < 0 || sack >= now.sacks.size()) {
            throw new NoSuchElementException();
        }
    }

    private static void range(int number, int least, int most) {
        if (number < least || number > most) {
            throw new IllegalArgumentException();
        }
    }

    private static void may(boolean right) {
        if (!right) {
            throw new IllegalStateException();
        }
    }

    int feed(int... five) {
        may(input.length() + 20 <= 700);
        for (int word : five) {
            for (int shift = 24; shift >= 0; shift -= 8) {
                input.append((char) (word >>> shift & 255));
            }
        }
        return input.length();
    }

    int load(int length) {
        range(length, 0, input.length());
        String text = input.substring(0, length);
        input.setLength(0);
        try {
            now = new Reading(text).all();
        } catch (Fault f) {
            errorCode = f.code;
            errorPosition = f.position;
            throw new IllegalStateException();
        }
        errorCode = 0;
        errorPosition = -1;
        undos.clear();
        saved[0] = null;
        saved[1] = null;
        return now.sacks.size();
    }

    int value(int what) {
        range(what, 0, 10);
        int[] places = new int[4];
        now.sacks.forEach(s -> places[s.place]++);
        int miles = now.way.stream().filter(s -> s[0] == 0).mapToInt(s -> s[1]).sum();
        return new int[] {now.mules.size(), now.sacks.size(), places[0], places[1], places[2], places[3], now.way.size(), now.day, now.money, miles, undos.size()}[what];
    }

    int setting(int which) {
        range(which, 0, 2);
        return now.settings[which];
    }

    int count(int what) {
        range(what, 0, 6);
        return now.counts[what];
    }

    int mule(int m, int what) {
        muleMust(m);
        range(what, 0, 9);
        Mule mule = now.mules.get(m);
        int worth = now.on(m).stream().mapToInt(s -> s.worth).sum();
        return new int[] {mule.strength, mule.tired, now.bears(m), now.load(m), now.side(m, 0), now.side(m, 1), now.on(m).size(), now.apart(m) <= now.settings[0] ? 1 : 0, worth, mule.name.length()}[what];
    }

    int nameByte(int m, int index) {
        muleMust(m);
        String name = now.mules.get(m).name;
        return index < 0 || index >= name.length() ? -1 : name.charAt(index);
    }

    int sack(int s, int what) {
        sackMust(s);
        range(what, 0, 7);
        Sack k = now.sacks.get(s);
        return new int[] {k.kind, k.weight, k.worth, k.place, k.mule, k.side, k.day, k.told}[what];
    }

    int stage(int s, int what) {
        if (s < 0 || s >= now.way.size()) {
            throw new NoSuchElementException();
        }
        range(what, 0, 1);
        return now.way.get(s)[what];
    }

    int whyNot(int s, int m) {
        sackMust(s);
        muleMust(m);
        return now.whyNot(s, m);
    }

    int whyNoTrip(int depth) {
        range(depth, 0, 1);
        return now.whyNoTrip()[depth];
    }

    int tripBrings() {
        return now.copy().trip();
    }

    int fate(int s) {
        sackMust(s);
        State then = now.copy();
        then.trip();
        if (now.sacks.get(s).place != 1) {
            return 0;
        }
        if (then.sacks.get(s).place == 3) {
            return 3;
        }
        return then.sacks.get(s).worth == now.sacks.get(s).worth ? 1 : 2;
    }

    int tiredBy(int m) {
        muleMust(m);
        State then = now.copy();
        then.trip();
        return then.mules.get(m).tired;
    }

    int bestWorth(int m) {
        muleMust(m);
        return now.most(0, now.bears(m) - now.load(m));
    }

    int bestSack(int m) {
        muleMust(m);
        return now.best(m);
    }

    int lighter(int m) {
        muleMust(m);
        return now.side(m, 1) < now.side(m, 0) ? 1 : 0;
    }

    int freshIn(int m) {
        muleMust(m);
        int tired = now.mules.get(m).tired;
        if (tired > 0 && now.settings[1] == 0) {
            return -1;
        }
        int days = 0;
        while (tired > 0) {
            tired -= now.settings[1];
            days++;
        }
        return days;
    }

    int deepest(int m) {
        muleMust(m);
        int deepest = 0;
        for (int depth = 1; depth <= 9; depth++) {
            if (!now.copy().shed(m, now.bears(m) * (10 - depth) / 10)) {
                deepest = depth;
            }
        }
        return deepest;
    }

    double worthOfLoads() {
        double worth = 0;
        double weight = 0;
        for (Sack s : now.sacks) {
            worth += s.place == 1 ? s.worth : 0;
            weight += s.place == 1 ? s.weight : 0;
        }
        return weight == 0 ? 0 : worth / weight;
    }

    float filled(int m) {
        muleMust(m);
        return now.bears(m) == 0 ? 0 : (float) now.load(m) / now.bears(m);
    }

    int pack(int s, int m, int side) {
        sackMust(s);
        muleMust(m);
        range(side, 0, 1);
        may(now.whyNot(s, m) == 0);
        changing();
        Sack k = now.sacks.get(s);
        k.place = 1;
        k.mule = m;
        k.side = side;
        return now.load(m);
    }

    int unpack(int s) {
        sackMust(s);
        Sack before = now.sacks.get(s);
        may(before.place == 1);
        int m = before.mule;
        changing();
        now.sacks.get(s).leave(0, -1);
        return now.load(m);
    }

    int fill(int m) {
        muleMust(m);
        changing();
        int packed = 0;
        for (int best = now.best(m); best >= 0; best = now.best(m)) {
            Sack k = now.sacks.get(best);
            k.side = lighter(m);
            k.place = 1;
            k.mule = m;
            packed++;
        }
        return packed;
    }

    int shift(int s) {
        sackMust(s);
        may(now.sacks.get(s).place == 1);
        changing();
        now.sacks.get(s).side = 1 - now.sacks.get(s).side;
        return now.apart(now.sacks.get(s).mule);
    }

    int trip() {
        may(now.whyNoTrip()[0] == 0 && now.day + 1 <= 9999);
        changing();
        return now.trip();
    }

    int rest(int days) {
        range(days, 1, 99);
        may(now.day + days <= 9999);
        changing();
        now.rest(days);
        return now.mules.stream().mapToInt(m -> m.tired).sum();
    }

    int addSack(int kind, int weight, int worth) {
        range(kind, 0, 3);
        range(weight, 1, 99);
        range(worth, 0, 999);
        may(now.sacks.size() < 16);
        changing();
        now.sacks.add(new Sack(kind, weight, worth));
        return now.sacks.size() - 1;
    }

    int addStage(int kind, int number) {
        range(kind, 0, 2);
        range(number, 1, new int[] {99, 9, 24}[kind]);
        may(now.way.size() < 8);
        changing();
        now.way.add(new int[] {kind, number});
        return now.way.size() - 1;
    }

    int dropStage(int s) {
        if (s < 0 || s >= now.way.size()) {
            throw new NoSuchElementException();
        }
        changing();
        now.way.remove(s);
        return now.way.size();
    }

    int set(int which, int value) {
        range(which, 0, 2);
        range(value, 0, which == 0 ? 99 : 50);
        changing();
        int before = now.settings[which];
        now.settings[which] = value;
        return before;
    }

    int restore(int slot) {
        range(slot, 0, 1);
        may(saved[slot] != null);
        changing();
        now = saved[slot].copy();
        return now.day;
    }

    int undo() {
        may(!undos.isEmpty());
        now = undos.pop();
        return undos.size();
    }

    int save(int slot) {
        range(slot, 0, 1);
        saved[slot] = now.copy();
        return (saved[0] == null ? 0 : 1) + (saved[1] == null ? 0 : 1);
    }

    int writeMule(int m) {
        muleMust(m);
        List<List<String>> sides = List.of(new ArrayList<>(), new ArrayList<>());
        for (int s = 0; s < now.sacks.size(); s++) {
            if (now.sacks.get(s).place == 1 && now.sacks.get(s).mule == m) {
                sides.get(now.sacks.get(s).side).add(Integer.toString(s));
            }
        }
        output = now.mules.get(m).name + ":" + String.join(",", sides.get(0)) + "|" + String.join(",", sides.get(1)) + "=" + now.load(m);
        return output.length();
    }

    int writeWay() {
        output = now.way.stream().map(s -> List.of("road", "ford", "camp").get(s[0]) + s[1]).collect(Collectors.joining(" "));
        return output.length();
    }

    int outputByte(int index) {
        if (index < 0 || index >= output.length()) {
            throw new IndexOutOfBoundsException();
        }
        return output.charAt(index);
    }
}
