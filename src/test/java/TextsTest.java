/** The faults of treaties and questions, each kind at its place; a mark ^ stands ahead of the place that is due. */
public final class TextsTest {
    private static final String LAND = "village a harvest 1 quarrel 1;village b harvest 1 quarrel 1;";
    private static final String TRAITS = " of a wits 1 oath 1 cheer 1;";
    private static final Trial TRIAL = new Trial();

    public static void main(String[] args) {
        wholeTreaties();
        textFaults();
        numberFaults();
        nameFaults();
        openFaults();
        manyFaults();
        questionFaults();
        TRIAL.end("TextsTest");
    }

    private static void fault(int kind, String marked) {
        TRIAL.treatyFault(kind, marked);
    }

    private static void whole(int statements, String text) {
        TRIAL.wholeTreaty(statements, text);
    }

    private static void wholeTreaties() {
        whole(2, LAND);
        whole(2, "\n village\na harvest\n999 quarrel 99 ; village b harvest 0 quarrel 0\n;\n ");
        whole(2, "village abcdef harvest 0999 quarrel 0099;village abcdeg harvest 1 quarrel 1;");
        whole(4, LAND + "person first of b wits 0 oath 9 cheer 09;person last of a wits 1 oath 1 cheer 1;");
        whole(4, LAND + "snow 0;snow 100;");
        whole(7, LAND + "sends(1)+min(wits,2)*max ( oath , cheer )/away-year;goose[all];does harvest-quarrel;fights guests*quarrel+harvest-year;stays not[not all];");
        whole(3, LAND + "sends((((((9999))))));");
        whole(3, LAND + "goose not not not not not not all;");
        whole(3, LAND + "goose not [not [not [all and all] or all]] and [[[[[[all]]]]]];");
        whole(3, LAND + "goose not not not not not not all and ((((((1))))))<((((((2))))));");
        whole(3, LAND + "sends min(min(min(min(min(min(1,2),3),4),5),6),(((((7))))));");
        whole(80, LAND + "snow 1;".repeat(78));
        StringBuilder eight = new StringBuilder(LAND);
        for (int i = 0; i < 8; i++) {
            eight.append("person p").append((char) ('a' + i)).append(TRAITS);
        }
        whole(10, eight.toString());
    }

    private static void textFaults() {
        fault(1, "^");
        fault(1, "  \n^");
        fault(1, "^;");
        fault(1, "^villag a harvest 1 quarrel 1;");
        fault(1, "^villages a harvest 1 quarrel 1;");
        fault(1, "^Village a harvest 1 quarrel 1;");
        fault(1, "village^A harvest 1 quarrel 1;");
        fault(1, "village a^B harvest 1 quarrel 1;");
        fault(1, "^12345;");
        fault(1, "^person p of a wits 1 oath 1 cheer 1;");
        fault(1, "^snow 5;");
        fault(1, "village ^;");
        fault(1, "village ^1 harvest 1 quarrel 1;");
        fault(1, "village ^year harvest 1 quarrel 1;");
        fault(1, "village ^harvest 1 quarrel 1;");
        fault(1, "village harves^ter harvest 1 quarrel 1;");
        fault(1, "village abcdef^g");
        fault(1, "village a^");
        fault(1, "village a ^");
        fault(1, "village a ^quarrel 1;");
        fault(1, "village a harvest^");
        fault(1, "village a harvest ^x");
        fault(1, "village a harvest^1 quarrel 1;");
        fault(1, "village a^1 quarrel 1;");
        fault(1, "village a harvest 1^quarrel 1;");
        fault(1, "village a harvest 0001^2 quarrel 1;");
        fault(1, "village a harvest 1234^5 quarrel 1;");
        fault(1, "village a harvest 1 ^2 quarrel 1;");
        fault(1, "village a harvest 1 quarrel ^-1;");
        fault(1, "village a harvest 1 quarrel 1^");
        fault(1, "village a harvest 1 quarrel 1 ^village b harvest 1 quarrel 1;");
        fault(1, "village a harvest 1 quarrel 1;^");
        fault(1, "village a harvest 1 quarrel 1; ^");
        fault(1, "village a harvest 1 quarrel 1;^snow 1;");
        fault(1, "village a^\tharvest 1 quarrel 1;");
        fault(1, "village a ^\u00e9");
        fault(1, "village a ^\u0000");
        fault(1, LAND + "^village c harvest 1 quarrel 1;");
        fault(1, LAND + "^;");
        fault(1, LAND + "^first all;");
        fault(1, LAND + "person p ^a wits 1 oath 1 cheer 1;");
        fault(1, LAND + "person p of ^wits 1 oath 1 cheer 1;");
        fault(1, LAND + "person p of abcdef^gh wits 1 oath 1 cheer 1;");
        fault(1, LAND + "person p of a ^oath 1 wits 1 cheer 1;");
        fault(1, LAND + "person p of a wits 1 oath 1 cheer 1^");
        fault(1, LAND + "person p of a wits 1 oath 1 cheer 1 ^harvest;");
        fault(1, LAND + "snow ^x;");
        fault(1, LAND + "snow ^;");
        fault(1, LAND + "snow^5;");
        sumFaults();
        testFaults();
    }

    private static void sumFaults() {
        fault(1, LAND + "sends ^;");
        fault(1, LAND + "sends^9-wits;");
        fault(1, LAND + "sends 9-^;");
        fault(1, LAND + "sends ^-9;");
        fault(1, LAND + "sends 9 ^wits;");
        fault(1, LAND + "sends wits ^9;");
        fault(1, LAND + "sends 1234^56;");
        fault(1, LAND + "sends 9^wits;");
        fault(1, LAND + "sends ^wit;");
        fault(1, LAND + "sends ^guests;");
        fault(1, LAND + "sends ^number;");
        fault(1, LAND + "sends ^lives;");
        fault(1, LAND + "sends ^home;");
        fault(1, LAND + "sends ^does;");
        fault(1, LAND + "sends harvest ^1;");
        fault(1, LAND + "sends (1^;");
        fault(1, LAND + "sends (1^]");
        fault(1, LAND + "sends 1^)");
        fault(1, LAND + "sends min ^1");
        fault(1, LAND + "sends min(1^)");
        fault(1, LAND + "sends min(1,2^,3)");
        fault(1, LAND + "sends 1 ^< 2;");
        fault(1, LAND + "sends ^all;");
        fault(1, LAND + "sends 1^");
        fault(1, LAND + "fights ^wits;");
        fault(1, LAND + "fights ^oath;");
        fault(1, LAND + "fights ^cheer;");
        fault(1, LAND + "fights quarrel+^away;");
        fault(1, LAND + "does ^guests;");
    }

    private static void testFaults() {
        fault(1, LAND + "goose ^;");
        fault(1, LAND + "goose wits^;");
        fault(1, LAND + "goose wits < ^;");
        fault(1, LAND + "goose wits < 5 ^< 6;");
        fault(1, LAND + "goose wits <^= 5;");
        fault(1, LAND + "goose all ^all;");
        fault(1, LAND + "goose all ^< 1;");
        fault(1, LAND + "goose all or ^;");
        fault(1, LAND + "goose ^or all;");
        fault(1, LAND + "goose not ^;");
        fault(1, LAND + "goose not ^and;");
        fault(1, LAND + "goose [all^;");
        fault(1, LAND + "goose [all^)");
        fault(1, LAND + "goose [wits^]");
        fault(1, LAND + "goose (^all");
        fault(1, LAND + "goose (wits ^< 5);");
        fault(1, LAND + "goose all^]");
        fault(1, LAND + "goose wits<5^or all;");
        fault(1, LAND + "stays ^guests > 1;");
        fault(1, LAND + "goose ^every;");
    }

    private static void numberFaults() {
        fault(2, "village a harvest ^1000 quarrel 1;");
        fault(2, "village a harvest 999 quarrel ^100;");
        fault(2, "village a harvest 1 quarrel ^100");
        fault(2, LAND + "person p of a wits ^10 oath 1 cheer 1;");
        fault(2, LAND + "person p of a wits 1 oath ^0010 cheer 1;");
        fault(2, LAND + "person p of a wits 1 oath 1 cheer ^99;");
        fault(2, LAND + "snow ^101;");
        fault(2, LAND + "snow ^9999x");
    }

    private static void nameFaults() {
        fault(3, "village a harvest 1 quarrel 1;village ^a harvest 1 quarrel 1;");
        fault(3, "village abcdef harvest 1 quarrel 1;village ^abcdef;");
        fault(1, "village abcdef harvest 1 quarrel 1;village abcdef^g;");
        fault(3, LAND + "person ^a of a wits 1 oath 1 cheer 1;");
        fault(3, LAND + "person ^b of a wits 1 oath 1 cheer 1;");
        fault(3, LAND + "person p" + TRAITS + "person ^p of");
        fault(3, LAND + "person p of ^c wits 1 oath 1 cheer 1;");
        fault(3, LAND + "person p of ^p wits 1 oath 1 cheer 1;");
        fault(3, LAND + "person p" + TRAITS + "person q of ^p wits 1 oath 1 cheer 1;");
        fault(3, LAND + "person p of ^aa wits 1 oath 1 cheer 1;");
    }

    private static void openFaults() {
        fault(4, LAND + "sends ((((((^(1)))))));");
        fault(4, LAND + "sends 1+((((((^(");
        fault(4, LAND + "goose not not not not not not ^not all;");
        fault(4, LAND + "goose [[[[[[^[all]]]]]]];");
        fault(4, LAND + "goose [not [not [not ^(1)<2]]];");
        fault(4, LAND + "goose not not not not not not 1<^(2);");
        fault(4, LAND + "sends min(min(min(min(min(min(1,2),3),4),5),6),(((((^(7)))))));");
        fault(4, LAND + "sends min((((((1))))),2)+max((((((max^(1,2))))))),2);");
        // What is closed is open no more.
        fault(1, LAND + "sends ((((((1))))))+((((((2))))))^,;");
        fault(1, LAND + "goose not not not not not not all and not not not not not not all ^all;");
        fault(1, LAND + "goose 1 ^((((((((;");
    }

    private static void manyFaults() {
        fault(5, LAND + "snow 1;".repeat(78) + "^snow 1;");
        fault(5, LAND + "snow 1;".repeat(78) + " \n^?");
        fault(5, LAND + "snow 1;".repeat(78) + "^village");
        fault(1, LAND + "snow 1;".repeat(77) + "^village");
        for (String rule : new String[] {"sends 1;", "does 1;", "fights 1;", "goose all;", "stays all;"}) {
            fault(5, LAND + rule + "snow 1;^" + rule);
            fault(5, LAND + rule + " ^" + rule.substring(0, 6).trim());
        }
        StringBuilder eight = new StringBuilder(LAND);
        for (int i = 0; i < 8; i++) {
            eight.append("person p").append((char) ('a' + i)).append(TRAITS);
        }
        fault(5, eight + "^person x" + TRAITS);
        fault(5, eight + "^person");
    }

    private static void asked(int kind, String marked) {
        TRIAL.questionFault(kind, Trial.by(LAND + "person p" + TRAITS), marked);
    }

    private static void questionFaults() {
        asked(1, "^");
        asked(1, " \n^");
        asked(1, "^every wits");
        asked(1, "^wits");
        asked(1, "^snow 5;");
        asked(1, "first^");
        asked(1, "first ^;");
        asked(1, "first wits^");
        asked(1, "first all ^;");
        asked(1, "first all ^x");
        asked(1, "first all ^first");
        asked(1, "total wits ^< 5");
        asked(1, "total wits ^wits");
        asked(1, "total ^all");
        asked(1, "total ^quarrel");
        asked(1, "total ^guests");
        asked(1, "total harvest^");
        asked(1, "total harvest ^+ 1");
        asked(1, "total harvest^1");
        asked(1, "total does ^all");
        asked(1, "total ^p");
        asked(1, "total^5");
        asked(1, "total 5^often");
        asked(1, "total 1234^5");
        asked(1, "total (1^");
        asked(1, "often harvest lives^");
        asked(4, "total harvest harvest harvest does does does ^does 0");
        asked(4, "total harvest harvest harvest does does does ^harvest 0");
        asked(4, "total harvest harvest harvest does does does ^(0)");
        asked(4, "total harvest (harvest (harvest (^does 1)))");
        asked(4, "often not not not not not not ^harvest 0 = 1");
        asked(4, "often [[[not not not 1 < ^does 0]]]");
        asked(1, "total harvest does harvest does harvest does 0 + harvest does harvest does harvest does 0 ^0");
        asked(1, "total harvest (harvest (harvest (0))) * harvest (harvest (harvest (0))) ^)");
    }
}
