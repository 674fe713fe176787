/** All that can be seen of an object without its tape, fault() and the image, in one text. */
final class Seen {
    private Seen() {
    }

    static String of(RivalWeds x) {
        StringBuilder all = new StringBuilder("counts");
        for (int what = 0; what < 15; what++) {
            all.append(' ').append(x.count(what));
        }
        for (int person = 0; person < x.count(0); person++) {
            addPerson(x, person, all);
        }
        for (int match = 0; match < x.count(1); match++) {
            all.append("\nmatch ").append(match).append(':');
            for (int what = 0; what < 7; what++) {
                all.append(' ').append(x.match(match, what));
            }
        }
        for (int ago = 0; ago < x.count(13); ago++) {
            all.append("\nlog ").append(ago).append(':');
            for (int what = 0; what < 4; what++) {
                all.append(' ').append(x.log(ago, what));
            }
        }
        int seed = x.seed(0);
        x.seed(seed);
        return all.append("\nseed ").append(seed).toString();
    }

    private static void addPerson(RivalWeds x, int person, StringBuilder all) {
        all.append("\nperson ").append(person).append(':');
        for (int what = 0; what < 7; what++) {
            all.append(' ').append(x.person(person, what));
        }
        all.append(", likes");
        for (int other = 0; other < x.count(0); other++) {
            all.append(' ').append(other == person ? 0 : x.liking(person, other));
        }
    }
}
